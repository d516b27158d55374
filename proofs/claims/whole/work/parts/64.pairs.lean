/-! class and reference side by side -/
def SlQ (B n : Nat) (h : HT) (o : Option Nat) (v : Option (Nat × (Nat → Int32) × (Nat → Nat → Int32))) : Prop := (o = none ∧ v = none) ∨ ∃ a N S F, o = some (B + a) ∧ 70 ≤ a ∧ a + 14 ≤ n ∧ v = some (N, S, F) ∧ sQ B a N S F h ∧ Inv N F
def SlS (B n : Nat) (f : Nat → Option Nat) (sv : Nat → Option (Nat × (Nat → Int32) × (Nat → Nat → Int32))) (h : HT) : Prop := 70 ≤ n ∧ (∀ s, s < 2 → SlQ B n h (f s) (sv s)) ∧ (∀ s, 2 ≤ s → sv s = none) ∧ ∀ s t a b, s < 2 → t < 2 → s ≠ t → f s = some (B + a) → f t = some (B + b) → a + 14 ≤ b ∨ b + 14 ≤ a
def LSt (B n : Nat) (h : HT) : Prop := ∃ N S F f L pt len C sv, L ≤ 20 ∧ len ≤ 200 ∧ Inv N F ∧ CL B N S F f (nI L) pt len C h ∧ ML B 51 N S F L pt len C sv h ∧ SlS B n f sv h
theorem SlS.kept {B n : Nat} {f : Nat → Option Nat} {sv : Nat → Option (Nat × (Nat → Int32) × (Nat → Nat → Int32))} {h h' : HT} (hs : SlS B n f sv h) (e : ∀ k, 70 ≤ k → h' k = h k) : SlS B n f sv h' := by
  obtain ⟨s1, s2, s3, s4⟩ := hs
  refine ⟨s1, fun s hs => ?_, s3, s4⟩
  rcases s2 s hs with q | ⟨a, N, S, F, q1, q2, q3, q4, q5, q6⟩
  · exact Or.inl q
  · exact Or.inr ⟨a, N, S, F, q1, q2, q3, q4, q5.kept (fun k k1 _ => e k (by omega)), q6⟩
theorem wM_in {B m : Nat} {A : Nat → Nat → Int32} {Wy : Nat → Int64} {V : Nat → Int32} {h h' : HT} {k : Nat} (h1 : m ≤ k) (h2 : k < m + 19) : wM B m A Wy V h k = wM B m A Wy V h' k := by
  unfold wM
  by_cases c1 : k = m
  · rw [if_pos c1, if_pos c1]
  · by_cases c2 : k = m + 14
    · rw [if_neg c1, if_pos c2, if_neg c1, if_pos c2]
    · rw [if_neg c1, if_neg c2, if_pos (by omega), if_neg c1, if_neg c2, if_pos (by omega)]
section
variable {B N : Nat} {S : Nat → Int32} {F : Nat → Nat → Int32} {L : Nat} {pt : Nat → Int32} {len : Nat} {C : Nat → Int32} {sv : Nat → Option (Nat × (Nat → Int32) × (Nat → Nat → Int32))} {h h' : HT}
theorem ML.kept (hM : ML B 51 N S F L pt len C sv h) (e : ∀ k, 51 ≤ k → k < 70 → h' k = h k) : ML B 51 N S F L pt len C sv h' := by
  obtain ⟨A, Wy, V, hh, ha⟩ := hM
  refine ⟨A, Wy, V, ?_, ha⟩
  funext k
  by_cases c : k < 51 ∨ 51 + 19 ≤ k
  · exact (wM_n c).symm
  · rw [e k (by omega) (by omega), hh]
    exact wM_in (by omega) (by omega)
theorem ML.obj (hM : ML B 51 N S F L pt len C sv h) : ∃ fs, h 51 = some (ob 9 fs) := by
  obtain ⟨A, Wy, V, hh, ha⟩ := hM
  rw [hh]
  exact ⟨_, wM_o⟩
theorem CL.kept {f : Nat → Option Nat} {wl : Int32} (hC : CL B N S F f wl pt len C h) (e : ∀ k, k < 51 → h' k = h k) : CL B N S F f wl pt len C h' := by
  obtain ⟨P, Wr, V, Lr, Cr, w, mb, nd, a, Nd, Sd, Fd, ⟨h0, h1, h2, h3, h4, h5, h6, h7, h8, h9⟩, hpt⟩ := hC
  exact ⟨P, Wr, V, Lr, Cr, w, mb, nd, a, Nd, Sd, Fd, ⟨(e _ (by omega)).trans h0, h1.kept (fun k _ _ => e k (by omega)), (e _ (by omega)).trans h2, h3.kept (fun k _ _ => e k (by omega)), h4.kept (fun k _ _ => e k (by omega)), h5.kept (fun k _ _ => e k (by omega)), h6.kept (fun k _ _ => e k (by omega)), ⟨(e _ (by omega)).trans h7.1, (e _ (by omega)).trans h7.2.1, (e _ (by omega)).trans h7.2.2.1, (e _ (by omega)).trans h7.2.2.2⟩, ⟨(e _ (by omega)).trans h8.1, (e _ (by omega)).trans h8.2⟩, h9.kept (fun k _ _ => e k (by omega))⟩, hpt⟩
theorem CL.obj {f : Nat → Option Nat} {wl : Int32} (hC : CL B N S F f wl pt len C h) : h 0 = some (dob B) := by
  obtain ⟨P, Wr, V, Lr, Cr, w, mb, nd, a, Nd, Sd, Fd, hc, hpt⟩ := hC
  exact hc.1
end
/-- the class answers, and then the reference the same -/
def PrI (G : GC) (B : Nat) (y8 y9 : MT) (as : List Value) (n : Nat) (h : HT) (mc ms : Nat) : Prop := CtJ G B y8 (.ref (B + 0) :: as) n h mc ms (fun r n2 h2 => ∃ v : Int32, r = some (.int v) ∧ (∃ fs, h2 51 = some (ob 9 fs)) ∧ CtJ G B y9 (.ref (B + 51) :: as) n2 h2 0 0 (fun r3 n3 h3 => r3 = some (.int v) ∧ LSt B n3 h3))
def PrL (G : GC) (B : Nat) (y8 y9 : MT) (as : List Value) (n : Nat) (h : HT) (mc ms : Nat) : Prop := CtJ G B y8 (.ref (B + 0) :: as) n h mc ms (fun r n2 h2 => ∃ v : Int64, r = some (.long v) ∧ (∃ fs, h2 51 = some (ob 9 fs)) ∧ CtJ G B y9 (.ref (B + 51) :: as) n2 h2 0 0 (fun r3 n3 h3 => r3 = some (.long v) ∧ LSt B n3 h3))
section
variable {G : GC} {B n : Nat} {h : HT}
theorem prI {y8 y9 : MT} {as : List Value} {v : Int32} {N : Nat} {S : Nat → Int32} {F : Nat → Nat → Int32} {f : Nat → Option Nat} {L : Nat} {pt : Nat → Int32} {len : Nat} {C : Nat → Int32} {sv : Nat → Option (Nat × (Nat → Int32) × (Nat → Nat → Int32))} {N' : Nat} {S' : Nat → Int32} {F' : Nat → Nat → Int32} {L' : Nat} {pt' : Nat → Int32} {len' : Nat} {C' : Nat → Int32} (hM : ML B 51 N S F L pt len C sv h) (hS : SlS B n f sv h) (hI : Inv N' F') (hL : L' ≤ 20) (hl : len' ≤ 200)
    (hd : CtJ G B y8 (.ref (B + 0) :: as) n h 0 0 (fun r2 n2 h2 => r2 = some (.int v) ∧ n2 = n ∧ CL B N' S' F' f (nI L') pt' len' C' h2 ∧ tl51 h h2))
    (hm : ∀ h2, ML B 51 N S F L pt len C sv h2 → CtJ G B y9 (.ref (B + 51) :: as) n h2 0 0 (fun r3 n3 h3 => r3 = some (.int v) ∧ n3 = n ∧ ML B 51 N' S' F' L' pt' len' C' sv h3 ∧ tk 51 h2 h3)) : PrI G B y8 y9 as n h 0 0 := by
  refine jj_mono hd (fun r n2 h2 q => ?_)
  obtain ⟨q1, q2, q3, q4⟩ := q
  have hM2 : ML B 51 N S F L pt len C sv h2 := hM.kept (fun k k1 _ => q4 k k1)
  refine ⟨v, q1, hM2.obj, ?_⟩
  rw [q2]
  refine jj_mono (hm h2 hM2) (fun r3 n3 h3 z => ?_)
  obtain ⟨z1, z2, z3, z4⟩ := z
  refine ⟨z1, ?_⟩
  rw [z2]
  exact ⟨N', S', F', f, L', pt', len', C', sv, hL, hl, hI, q3.kept (fun k hk => z4 k (Or.inl hk)), z3, (hS.kept (fun k hk => q4 k (by omega))).kept (fun k hk => z4 k (Or.inr hk))⟩
end
/-! the calls that change nothing, or little -/
theorem p_items {G : GC} {B n : Nat} {h : HT} (hLS : LSt B n h) : PrI G B M8_items M9_items [] n h 0 0 := by
  obtain ⟨N, S, F, f, L, pt, len, C, sv, hL, hl, hI, hC, hM, hS⟩ := hLS
  exact prI hM hS hI hL hl (d_items hI.le hC) (fun h2 hm => m_items hI.le hm)
theorem p_time {G : GC} {B n : Nat} {h : HT} (hLS : LSt B n h) : PrI G B M8_time M9_time [] n h 0 0 := by
  obtain ⟨N, S, F, f, L, pt, len, C, sv, hL, hl, hI, hC, hM, hS⟩ := hLS
  exact prI hM hS hI hL hl (d_time hI.le hC) (fun h2 hm => m_time hI.le hm)
theorem p_edges {G : GC} {B n : Nat} {h : HT} (hLS : LSt B n h) : PrI G B M8_edges M9_edges [] n h 0 0 := by
  obtain ⟨N, S, F, f, L, pt, len, C, sv, hL, hl, hI, hC, hM, hS⟩ := hLS
  have hd := d_edges (G := G) (n := n) hI.le hC
  rw [hI.ed] at hd
  exact prI hM hS hI hL hl hd (fun h2 hm => m_edges hI.le hm)
theorem p_state {G : GC} {B n : Nat} {h : HT} (hLS : LSt B n h) (x : Int32) : PrI G B M8_state M9_state [.int x] n h 0 0 := by
  obtain ⟨N, S, F, f, L, pt, len, C, sv, hL, hl, hI, hC, hM, hS⟩ := hLS
  exact prI hM hS hI hL hl (d_state hI.le hC x) (fun h2 hm => m_state hI.le hm x)
theorem p_receipt {G : GC} {B n : Nat} {h : HT} (hLS : LSt B n h) (x : Int32) : PrI G B M8_receipt M9_receipt [.int x] n h 0 0 := by
  obtain ⟨N, S, F, f, L, pt, len, C, sv, hL, hl, hI, hC, hM, hS⟩ := hLS
  exact prI hM hS hI hL hl (d_receipt hI.le hC x) (fun h2 hm => m_receipt hI.le hm x)
theorem p_itemsIn {G : GC} {B n : Nat} {h : HT} (hLS : LSt B n h) (x : Int32) : PrI G B M8_itemsIn M9_itemsIn [.int x] n h 0 0 := by
  obtain ⟨N, S, F, f, L, pt, len, C, sv, hL, hl, hI, hC, hM, hS⟩ := hLS
  exact prI hM hS hI hL hl (d_itemsIn hI.le hC x) (fun h2 hm => m_itemsIn hI.le hm x)
theorem p_property {G : GC} {B n : Nat} {h : HT} (hLS : LSt B n h) (x y : Int32) : PrI G B M8_property M9_property [.int x, .int y] n h 0 0 := by
  obtain ⟨N, S, F, f, L, pt, len, C, sv, hL, hl, hI, hC, hM, hS⟩ := hLS
  exact prI hM hS hI hL hl (d_property hI.le hC x y) (fun h2 hm => m_property hI.le hm x y)
theorem p_edge {G : GC} {B n : Nat} {h : HT} (hLS : LSt B n h) (x y : Int32) : PrI G B M8_edge M9_edge [.int x, .int y] n h 0 0 := by
  obtain ⟨N, S, F, f, L, pt, len, C, sv, hL, hl, hI, hC, hM, hS⟩ := hLS
  exact prI hM hS hI hL hl (d_edge hI.le hC x y) (fun h2 hm => m_edge hI.le hm x y)
theorem p_witness {G : GC} {B n : Nat} {h : HT} (hLS : LSt B n h) (x : Int32) : PrI G B M8_witness M9_witness [.int x] n h 0 0 := by
  obtain ⟨N, S, F, f, L, pt, len, C, sv, hL, hl, hI, hC, hM, hS⟩ := hLS
  exact prI hM hS hI hL hl (d_witness hL hC x) (fun h2 hm => m_witness hI.le hm hL x)
theorem p_setPolicy {G : GC} {B n : Nat} {h : HT} (hLS : LSt B n h) (x : Int32) : PrI G B M8_setPolicy M9_setPolicy [.int x] n h 0 0 := by
  obtain ⟨N, S, F, f, L, pt, len, C, sv, hL, hl, hI, hC, hM, hS⟩ := hLS
  exact prI hM hS hI hL hl (d_setPolicy hI.le hC x) (fun h2 hm => m_setPolicy hI.le hm x)
theorem p_setGroupLimit {G : GC} {B n : Nat} {h : HT} (hLS : LSt B n h) (x : Int32) : PrI G B M8_setGroupLimit M9_setGroupLimit [.int x] n h 0 0 := by
  obtain ⟨N, S, F, f, L, pt, len, C, sv, hL, hl, hI, hC, hM, hS⟩ := hLS
  exact prI hM hS hI hL hl (d_setGroupLimit hI.le hC x) (fun h2 hm => m_setGroupLimit hI.le hm x)
theorem p_clear {G : GC} {B n : Nat} {h : HT} (hLS : LSt B n h) : PrI G B M8_clear M9_clear [] n h 0 0 := by
  obtain ⟨N, S, F, f, L, pt, len, C, sv, hL, hl, hI, hC, hM, hS⟩ := hLS
  exact prI (L' := 0) hM hS (Inv_0 F) (by omega) hl (d_clear hI.le hC) (fun h2 hm => m_clear hI.le hm)
theorem p_write {G : GC} {B n : Nat} {h : HT} (hLS : LSt B n h) (x : Int32) : PrI G B M8_write M9_write [.int x] n h 0 0 := by
  obtain ⟨N, S, F, f, L, pt, len, C, sv, hL, hl, hI, hC, hM, hS⟩ := hLS
  refine prI hM hS hI hL ?_ (d_write hI.le hC hl x) (fun h2 hm => m_write hI.le hm hl x)
  unfold zWri
  split
  · split
    · exact hl
    · show len + 1 ≤ 200; omega
  · exact hl
theorem p_wipe {G : GC} {B n : Nat} {h : HT} (hLS : LSt B n h) : PrI G B M8_wipe M9_wipe [] n h 0 0 := by
  obtain ⟨N, S, F, f, L, pt, len, C, sv, hL, hl, hI, hC, hM, hS⟩ := hLS
  exact prI hM hS hI hL (by omega) (d_wipe hI.le hC) (fun h2 hm => m_wipe hI.le hm)
theorem p_fault {G : GC} {B n : Nat} {h : HT} (hLS : LSt B n h) : PrI G B M8_fault M9_fault [] n h 0 0 := by
  obtain ⟨N, S, F, f, L, pt, len, C, sv, hL, hl, hI, hC, hM, hS⟩ := hLS
  exact prI hM hS hI hL hl (d_fault hI.le hC hl (rdS C len F).1 (fun Fd => (rdS_Ag C len Fd F).1)) (fun h2 hm => m_fault hI.le hm hl F)
theorem p_setPriority {G : GC} {B n : Nat} {h : HT} (hLS : LSt B n h) (x y : Int32) : PrI G B M8_setPriority M9_setPriority [.int x, .int y] n h 0 0 := by
  obtain ⟨N, S, F, f, L, pt, len, C, sv, hL, hl, hI, hC, hM, hS⟩ := hLS
  refine prI hM hS ?_ hL hl (d_setPriority hI.le hC x y) (fun h2 hm => m_setPriority hI.le hm x y)
  unfold zPri
  by_cases c1 : isN N x = true
  · rw [if_pos c1]
    by_cases c2 : wth y 0 9 = true
    · rw [if_pos c2]
      by_cases c3 : 3 ≤ F 5 (ix x)
      · rw [if_pos c3]; exact hI
      · rw [if_neg c3]
        refine Inv_cong hI (fun i _ => ?_)
        show uF F 0 (ix x) y 1 i = _ ∧ uF F 0 (ix x) y 2 i = _ ∧ uF F 0 (ix x) y 5 i = _ ∧ uF F 0 (ix x) y 9 i = _ ∧ uF F 0 (ix x) y 11 i = _ ∧ uF F 0 (ix x) y 12 i = _
        rw [uF_j _ _ _ _ (by decide), uF_j _ _ _ _ (by decide), uF_j _ _ _ _ (by decide), uF_j _ _ _ _ (by decide), uF_j _ _ _ _ (by decide), uF_j _ _ _ _ (by decide)]
        exact ⟨rfl, rfl, rfl, rfl, rfl, rfl⟩
    · rw [if_neg c2]; exact hI
  · rw [if_neg c1]; exact hI
theorem p_extend {G : GC} {B n : Nat} {h : HT} (hLS : LSt B n h) (x r v : Int32) : PrI G B M8_extend M9_extend [.int x, .int r, .int v] n h 0 0 := by
  obtain ⟨N, S, F, f, L, pt, len, C, sv, hL, hl, hI, hC, hM, hS⟩ := hLS
  refine prI hM hS ?_ hL hl (d_extend hI.le hC x r v) (fun h2 hm => m_extend hI.le hm x r v)
  unfold zExt
  by_cases c1 : isN N x = true
  · rw [if_pos c1]
    by_cases c2 : wth v 1 30 = true
    · rw [if_pos c2]
      by_cases c3 : F 5 (ix x) = 2 ∧ F 10 (ix x) = r
      · rw [if_pos c3]
        refine Inv_cong hI (fun i _ => ?_)
        show uF F 8 (ix x) (S 1 + v) 1 i = _ ∧ uF F 8 (ix x) (S 1 + v) 2 i = _ ∧ uF F 8 (ix x) (S 1 + v) 5 i = _ ∧ uF F 8 (ix x) (S 1 + v) 9 i = _ ∧ uF F 8 (ix x) (S 1 + v) 11 i = _ ∧ uF F 8 (ix x) (S 1 + v) 12 i = _
        rw [uF_j _ _ _ _ (by decide), uF_j _ _ _ _ (by decide), uF_j _ _ _ _ (by decide), uF_j _ _ _ _ (by decide), uF_j _ _ _ _ (by decide), uF_j _ _ _ _ (by decide)]
        exact ⟨rfl, rfl, rfl, rfl, rfl, rfl⟩
      · rw [if_neg c3]; exact hI
    · rw [if_neg c2]; exact hI
  · rw [if_neg c1]; exact hI
/-! paths -/
theorem Inv.bf {N : Nat} {F : Nat → Nat → Int32} (h : Inv N F) : ∀ P i, i < N → bfS F N P 0 i = bfN F N i := by
  obtain ⟨rk, hr, hk⟩ := h.1.1.2.1
  exact bfS_eq hr h.1.1.2.2
theorem Inv.ht {N : Nat} {F : Nat → Nat → Int32} (h : Inv N F) : ∀ P i, i < N → htS F N P 1 i = nI (hgN F N i) := by
  obtain ⟨rk, hr, hk⟩ := h.1.1.2.1
  exact htS_eq h.le hr hk h.gr.2.1
theorem Inv.ld {N : Nat} {F : Nat → Nat → Int32} (h : Inv N F) : ∀ P i, i < N → leS F N P 2 i = nI (ldN F N i) := by
  obtain ⟨rk, hr, hk⟩ := h.1.1.2.1
  exact leS_eq h.le hr hk h.gr.2.1
theorem p_before {G : GC} {B n : Nat} {h : HT} (hLS : LSt B n h) (x : Int32) : PrI G B M8_before M9_before [.int x] n h 0 0 := by
  obtain ⟨N, S, F, f, L, pt, len, C, sv, hL, hl, hI, hC, hM, hS⟩ := hLS
  exact prI hM hS hI hL hl (d_before hI.le hC x (bfN F N) hI.bf) (fun h2 hm => m_before hI.le hm hI.gr x)
theorem p_height {G : GC} {B n : Nat} {h : HT} (hLS : LSt B n h) (x : Int32) : PrI G B M8_height M9_height [.int x] n h 0 0 := by
  obtain ⟨N, S, F, f, L, pt, len, C, sv, hL, hl, hI, hC, hM, hS⟩ := hLS
  exact prI hM hS hI hL hl (d_height hI.le hC x (fun i => nI (hgN F N i)) hI.ht) (fun h2 hm => m_height hI.le hm hI.gr x)
theorem p_rank {G : GC} {B n : Nat} {h : HT} (hLS : LSt B n h) (x : Int32) : PrI G B M8_rank M9_rank [.int x] n h 0 0 := by
  obtain ⟨N, S, F, f, L, pt, len, C, sv, hL, hl, hI, hC, hM, hS⟩ := hLS
  exact prI hM hS hI hL hl (d_rank hI.le hC x (fun i => nI (hgN F N i)) hI.ht) (fun h2 hm => m_rank hI.le hm hI.gr x)
theorem p_wouldDoom {G : GC} {B n : Nat} {h : HT} (hLS : LSt B n h) (x : Int32) : PrI G B M8_wouldDoom M9_wouldDoom [.int x] n h 0 0 := by
  obtain ⟨N, S, F, f, L, pt, len, C, sv, hL, hl, hI, hC, hM, hS⟩ := hLS
  exact prI hM hS hI hL hl (d_wouldDoom hI.le hC x) (fun h2 hm => m_wouldDoom hI.le hm hI.gr x)
theorem p_isSuperfluous {G : GC} {B n : Nat} {h : HT} (hLS : LSt B n h) (x y : Int32) : PrI G B M8_isSuperfluous M9_isSuperfluous [.int x, .int y] n h 0 0 := by
  obtain ⟨N, S, F, f, L, pt, len, C, sv, hL, hl, hI, hC, hM, hS⟩ := hLS
  exact prI hM hS hI hL hl (d_isSuperfluous hI.le hC x y (bfN F N) hI.bf) (fun h2 hm => m_isSuperfluous hI.le hm hI.gr x y)
theorem p_slack {G : GC} {B n : Nat} {h : HT} (hLS : LSt B n h) (x : Int32) : PrI G B M8_slack M9_slack [.int x] n h 0 0 := by
  obtain ⟨N, S, F, f, L, pt, len, C, sv, hL, hl, hI, hC, hM, hS⟩ := hLS
  exact prI hM hS hI hL hl (d_slack hI.le hC x (fun i => nI (hgN F N i)) (fun i => nI (ldN F N i)) hI.ht hI.ld) (fun h2 hm => m_slack hI.le hm hI.gr x)
theorem p_receive {G : GC} {B n : Nat} {h : HT} (hLS : LSt B n h) (x : Int32) : PrI G B M8_receive M9_receive [.int x] n h 0 0 := by
  obtain ⟨N, S, F, f, L, pt, len, C, sv, hL, hl, hI, hC, hM, hS⟩ := hLS
  refine prI hM hS ?_ hL hl (d_receive hI.le hC x (fun i => nI (hgN F N i)) hI.ht) (fun h2 hm => m_receive hI.le hm hI.gr x)
  unfold zRec
  by_cases c1 : wth x 1 30 = true
  · rw [if_pos c1]
    cases hb : pkB (cbr S F N) (fun i => rkN S F i (nI (hgN F N i))) N with
    | none => exact hI
    | some b =>
      obtain ⟨b1, b2⟩ := pkB_lt _ _ _ _ hb
      exact hI.rc S b1 (of_decide_eq_true b2).1 x
  · rw [if_neg c1]; exact hI
/-! width and orders -/
theorem une_lt {F : Nat → Nat → Int32} {N : Nat} (hN : N ≤ 20) : ∀ i, bt (une F N) i = true → i < N := by
  intro i hb
  unfold une at hb
  rw [b_or, b_or, bt_msk _ (by omega), bt_msk _ (by omega), bt_msk _ (by omega)] at hb
  rcases Nat.lt_or_ge i N with q | q
  · exact q
  · rw [decide_eq_false (Nat.not_lt.mpr q)] at hb
    cases hb
theorem p_width {G : GC} {B n : Nat} {h : HT} (hLS : LSt B n h) : PrI G B M8_width M9_width [] n h 0 0 := by
  obtain ⟨N, S, F, f, L, pt, len, C, sv, hL, hl, hI, hC, hM, hS⟩ := hLS
  have hN := hI.le
  refine prI hM hS hI hL hl (d_width hI.le hC (cn (scB (Xc (une F N) (bfN F N)) (bt (une F N))) 20) (bfN F N) hI.bf (fun b2 O hb => ?_)) (fun h2 hm => m_width hI.le hm hI.gr)
  exact width_ok (fun i hi => by have := une_lt hN i hi; omega) b2 O (fun i hi => hb i (une_lt hN i hi))
theorem p_orders {G : GC} {B n : Nat} {h : HT} (hLS : LSt B n h) : PrL G B M8_orders M9_orders [] n h 0 0 := by
  obtain ⟨N, S, F, f, L, pt, len, C, sv, hL, hl, hI, hC, hM, hS⟩ := hLS
  obtain ⟨o1, o2⟩ := orders_class (N := N) (F := F) hI.le (une_lt hI.le)
  refine jj_mono (d_orders hI.le hC (ordV F N) (mmO (une F N)) (bfN F N) hI.bf o1 o2) (fun r n2 h2 q => ?_)
  obtain ⟨q1, q2, q3, q4⟩ := q
  have hM2 : ML B 51 N S F L pt len C sv h2 := hM.kept (fun k k1 _ => q4 k k1)
  refine ⟨_, q1, hM2.obj, ?_⟩
  rw [q2]
  refine jj_mono (m_orders hI.le hM2 hI.gr) (fun r3 n3 h3 z => ?_)
  obtain ⟨z1, z2, z3, z4⟩ := z
  refine ⟨z1, ?_⟩
  rw [z2]
  exact ⟨N, S, F, f, L, pt, len, C, sv, hL, hl, hI, q3.kept (fun k hk => z4 k (Or.inl hk)), z3, (hS.kept (fun k hk => q4 k (by omega))).kept (fun k hk => z4 k (Or.inr hk))⟩
