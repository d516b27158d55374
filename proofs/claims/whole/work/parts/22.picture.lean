/-! the class's cells, all of them -/
def sQ (B q N : Nat) (S : Nat → Int32) (F : Nat → Nat → Int32) (H : HT) : Prop := H q = some (ob 5 (qobj B q N S)) ∧ ∀ j, j < 13 → H (q + (j + 1)) = some (ia 20 (F j))
def sA (o m : Nat) (obj : AE) (P : Nat → Nat → Int32) (H : HT) : Prop := H o = some obj ∧ ∀ j, j < m → H (o + (j + 1)) = some (ia 20 (P j))
theorem sQ.kept {B q N : Nat} {S : Nat → Int32} {F : Nat → Nat → Int32} {H H' : HT} (h : sQ B q N S F H) (e : ∀ k, q ≤ k → k < q + 14 → H' k = H k) : sQ B q N S F H' := ⟨(e _ (by omega) (by omega)).trans h.1, fun j hj => (e _ (by omega) (by omega)).trans (h.2 j hj)⟩
theorem sA.kept {o m : Nat} {obj : AE} {P : Nat → Nat → Int32} {H H' : HT} (h : sA o m obj P H) (e : ∀ k, o ≤ k → k < o + 1 + m → H' k = H k) : sA o m obj P H' := ⟨(e _ (by omega) (by omega)).trans h.1, fun j hj => (e _ (by omega) (by omega)).trans (h.2 j hj)⟩
theorem sQ.w {B q N : Nat} {S : Nat → Int32} {F : Nat → Nat → Int32} {H : HT} : sQ B q N S F (wQ B q N S F H) := ⟨wQ_o, fun _ hj => wQ_a hj⟩
theorem sA.w {o m : Nat} {obj : AE} {P : Nat → Nat → Int32} {H : HT} : sA o m obj P (wA o m obj P H) := ⟨wA_o, fun _ hj => wA_a hj⟩
theorem sQ.id {B q N : Nat} {S : Nat → Int32} {F : Nat → Nat → Int32} {H : HT} (h : sQ B q N S F H) : H = wQ B q N S F H := (wQ_id h.1 h.2).symm
theorem sA.id {o m : Nat} {obj : AE} {P : Nat → Nat → Int32} {H : HT} (h : sA o m obj P H) : H = wA o m obj P H := by
  funext k
  by_cases hk : k = o
  · subst hk; rw [wA_o, h.1]
  · by_cases h1 : o < k ∧ k < o + 1 + m
    · have := h.2 (k - (o + 1)) (by omega)
      rw [show o + (k - (o + 1) + 1) = k by omega] at this
      unfold wA
      rw [if_neg hk, if_pos h1, this]
    · exact (wA_n (by omega)).symm
theorem wA_comm {o m o' m' : Nat} {obj obj' : AE} {P P' : Nat → Nat → Int32} {H : HT} (hd : o + 1 + m ≤ o' ∨ o' + 1 + m' ≤ o) : wA o m obj P (wA o' m' obj' P' H) = wA o' m' obj' P' (wA o m obj P H) := by
  funext k
  by_cases h1 : o ≤ k ∧ k < o + 1 + m
  · rw [wA_n (o := o') (by omega)]
    unfold wA
    by_cases h2 : k = o
    · rw [if_pos h2, if_pos h2]
    · rw [if_neg h2, if_neg h2, if_pos (by omega), if_pos (by omega)]
  · rw [wA_n (o := o) (by omega)]
    unfold wA
    by_cases h2 : k = o'
    · rw [if_pos h2, if_pos h2]
    · rw [if_neg h2, if_neg h2]
      by_cases h3 : o' < k ∧ k < o' + 1 + m'
      · rw [if_pos h3, if_pos h3]
      · rw [if_neg h3, if_neg h3, if_neg (by omega), if_neg (by omega)]
abbrev dob (B : Nat) : AE := ob 8 [.ref (B + 1), .ref (B + 15), .ref (B + 16), .ref (B + 20), .ref (B + 23), .ref (B + 27), .ref (B + 31), .ref (B + 35)]
def sO (B : Nat) (w : Nat → Int64) (mb nd : Nat → Int32) (H : HT) : Prop := H 31 = some (oob B 31) ∧ H 32 = some (la 4096 w) ∧ H 33 = some (ia 12 mb) ∧ H 34 = some (ia 12 nd)
def sT (B len a : Nat) (C : Nat → Int32) (H : HT) : Prop := H 35 = some (tob B 35 len a) ∧ H 50 = some (ia 200 C)
theorem sO.id {B : Nat} {w : Nat → Int64} {mb nd : Nat → Int32} {H : HT} (h : sO B w mb nd H) : H = wO B 31 w mb nd H := by
  funext k
  unfold wO
  by_cases h0 : k = 31
  · subst h0; rw [if_pos rfl]; exact h.1
  · by_cases h1 : k = 32
    · subst h1; rw [if_neg (by omega), if_pos rfl]; exact h.2.1
    · by_cases h2 : k = 33
      · subst h2; rw [if_neg (by omega), if_neg (by omega), if_pos rfl]; exact h.2.2.1
      · by_cases h3 : k = 34
        · subst h3; rw [if_neg (by omega), if_neg (by omega), if_neg (by omega), if_pos rfl]; exact h.2.2.2
        · rw [if_neg h0, if_neg h1, if_neg h2, if_neg h3]
theorem sT.id {B len a : Nat} {C : Nat → Int32} {H : HT} (h : sT B len a C H) : H = wT B 35 len a C H := by
  funext k
  unfold wT
  by_cases h0 : k = 35
  · subst h0; rw [if_pos rfl]; exact h.1
  · by_cases h1 : k = 50
    · subst h1; rw [if_neg (by omega), if_pos rfl]; exact h.2
    · rw [if_neg h0, if_neg h1]
/-- everything, also what is only used within a call -/
def CLx (B N : Nat) (S : Nat → Int32) (F : Nat → Nat → Int32) (f : Nat → Option Nat) (wl : Int32) (len : Nat) (C : Nat → Int32) (P Wr : Nat → Nat → Int32) (V : Nat → Int32) (Lr Cr : Nat → Nat → Int32) (w : Nat → Int64) (mb nd : Nat → Int32) (a Nd : Nat) (Sd : Nat → Int32) (Fd : Nat → Nat → Int32) (H : HT) : Prop :=
  H 0 = some (dob B) ∧ sQ B 1 N S F H ∧ H 15 = some (qa 2 f) ∧ sA 16 3 (pob B 16 1) P H ∧ sA 20 2 (wob B 20 wl) Wr H ∧ sA 23 3 (lob B 23 V) Lr H ∧ sA 27 3 (cob B 27) Cr H ∧ sO B w mb nd H ∧ sT B len a C H ∧ sQ B 36 Nd Sd Fd H
section
variable {B N : Nat} {S : Nat → Int32} {F : Nat → Nat → Int32} {f : Nat → Option Nat} {wl : Int32} {len : Nat} {C : Nat → Int32} {P Wr : Nat → Nat → Int32} {V : Nat → Int32} {Lr Cr : Nat → Nat → Int32} {w : Nat → Int64} {mb nd : Nat → Int32} {a Nd : Nat} {Sd : Nat → Int32} {Fd : Nat → Nat → Int32} {H : HT}
theorem CLx.q (h : CLx B N S F f wl len C P Wr V Lr Cr w mb nd a Nd Sd Fd H) (N' : Nat) (S' : Nat → Int32) (F' : Nat → Nat → Int32) : CLx B N' S' F' f wl len C P Wr V Lr Cr w mb nd a Nd Sd Fd (wQ B 1 N' S' F' H) := by
  obtain ⟨h0, h1, h2, h3, h4, h5, h6, h7, h8, h9⟩ := h
  have e : ∀ k, k < 1 ∨ 15 ≤ k → wQ B 1 N' S' F' H k = H k := fun k hk => wQ_n (by omega)
  exact ⟨(e _ (by omega)).trans h0, sQ.w, (e _ (by omega)).trans h2, h3.kept (fun k _ _ => e k (by omega)), h4.kept (fun k _ _ => e k (by omega)), h5.kept (fun k _ _ => e k (by omega)), h6.kept (fun k _ _ => e k (by omega)), ⟨(e _ (by omega)).trans h7.1, (e _ (by omega)).trans h7.2.1, (e _ (by omega)).trans h7.2.2.1, (e _ (by omega)).trans h7.2.2.2⟩, ⟨(e _ (by omega)).trans h8.1, (e _ (by omega)).trans h8.2⟩, h9.kept (fun k _ _ => e k (by omega))⟩
theorem CLx.p (h : CLx B N S F f wl len C P Wr V Lr Cr w mb nd a Nd Sd Fd H) (P' : Nat → Nat → Int32) : CLx B N S F f wl len C P' Wr V Lr Cr w mb nd a Nd Sd Fd (wA 16 3 (pob B 16 1) P' H) := by
  obtain ⟨h0, h1, h2, h3, h4, h5, h6, h7, h8, h9⟩ := h
  have e : ∀ k, k < 16 ∨ 20 ≤ k → wA 16 3 (pob B 16 1) P' H k = H k := fun k hk => wA_n (by omega)
  exact ⟨(e _ (by omega)).trans h0, h1.kept (fun k _ _ => e k (by omega)), (e _ (by omega)).trans h2, sA.w, h4.kept (fun k _ _ => e k (by omega)), h5.kept (fun k _ _ => e k (by omega)), h6.kept (fun k _ _ => e k (by omega)), ⟨(e _ (by omega)).trans h7.1, (e _ (by omega)).trans h7.2.1, (e _ (by omega)).trans h7.2.2.1, (e _ (by omega)).trans h7.2.2.2⟩, ⟨(e _ (by omega)).trans h8.1, (e _ (by omega)).trans h8.2⟩, h9.kept (fun k _ _ => e k (by omega))⟩
theorem CLx.wi (h : CLx B N S F f wl len C P Wr V Lr Cr w mb nd a Nd Sd Fd H) (wl' : Int32) (Wr' : Nat → Nat → Int32) : CLx B N S F f wl' len C P Wr' V Lr Cr w mb nd a Nd Sd Fd (wA 20 2 (wob B 20 wl') Wr' H) := by
  obtain ⟨h0, h1, h2, h3, h4, h5, h6, h7, h8, h9⟩ := h
  have e : ∀ k, k < 20 ∨ 23 ≤ k → wA 20 2 (wob B 20 wl') Wr' H k = H k := fun k hk => wA_n (by omega)
  exact ⟨(e _ (by omega)).trans h0, h1.kept (fun k _ _ => e k (by omega)), (e _ (by omega)).trans h2, h3.kept (fun k _ _ => e k (by omega)), sA.w, h5.kept (fun k _ _ => e k (by omega)), h6.kept (fun k _ _ => e k (by omega)), ⟨(e _ (by omega)).trans h7.1, (e _ (by omega)).trans h7.2.1, (e _ (by omega)).trans h7.2.2.1, (e _ (by omega)).trans h7.2.2.2⟩, ⟨(e _ (by omega)).trans h8.1, (e _ (by omega)).trans h8.2⟩, h9.kept (fun k _ _ => e k (by omega))⟩
theorem CLx.l (h : CLx B N S F f wl len C P Wr V Lr Cr w mb nd a Nd Sd Fd H) (V' : Nat → Int32) (Lr' : Nat → Nat → Int32) : CLx B N S F f wl len C P Wr V' Lr' Cr w mb nd a Nd Sd Fd (wA 23 3 (lob B 23 V') Lr' H) := by
  obtain ⟨h0, h1, h2, h3, h4, h5, h6, h7, h8, h9⟩ := h
  have e : ∀ k, k < 23 ∨ 27 ≤ k → wA 23 3 (lob B 23 V') Lr' H k = H k := fun k hk => wA_n (by omega)
  exact ⟨(e _ (by omega)).trans h0, h1.kept (fun k _ _ => e k (by omega)), (e _ (by omega)).trans h2, h3.kept (fun k _ _ => e k (by omega)), h4.kept (fun k _ _ => e k (by omega)), sA.w, h6.kept (fun k _ _ => e k (by omega)), ⟨(e _ (by omega)).trans h7.1, (e _ (by omega)).trans h7.2.1, (e _ (by omega)).trans h7.2.2.1, (e _ (by omega)).trans h7.2.2.2⟩, ⟨(e _ (by omega)).trans h8.1, (e _ (by omega)).trans h8.2⟩, h9.kept (fun k _ _ => e k (by omega))⟩
theorem CLx.c (h : CLx B N S F f wl len C P Wr V Lr Cr w mb nd a Nd Sd Fd H) (Cr' : Nat → Nat → Int32) : CLx B N S F f wl len C P Wr V Lr Cr' w mb nd a Nd Sd Fd (wA 27 3 (cob B 27) Cr' H) := by
  obtain ⟨h0, h1, h2, h3, h4, h5, h6, h7, h8, h9⟩ := h
  have e : ∀ k, k < 27 ∨ 31 ≤ k → wA 27 3 (cob B 27) Cr' H k = H k := fun k hk => wA_n (by omega)
  exact ⟨(e _ (by omega)).trans h0, h1.kept (fun k _ _ => e k (by omega)), (e _ (by omega)).trans h2, h3.kept (fun k _ _ => e k (by omega)), h4.kept (fun k _ _ => e k (by omega)), h5.kept (fun k _ _ => e k (by omega)), sA.w, ⟨(e _ (by omega)).trans h7.1, (e _ (by omega)).trans h7.2.1, (e _ (by omega)).trans h7.2.2.1, (e _ (by omega)).trans h7.2.2.2⟩, ⟨(e _ (by omega)).trans h8.1, (e _ (by omega)).trans h8.2⟩, h9.kept (fun k _ _ => e k (by omega))⟩
theorem CLx.o (h : CLx B N S F f wl len C P Wr V Lr Cr w mb nd a Nd Sd Fd H) (w' : Nat → Int64) (mb' nd' : Nat → Int32) : CLx B N S F f wl len C P Wr V Lr Cr w' mb' nd' a Nd Sd Fd (wO B 31 w' mb' nd' H) := by
  obtain ⟨h0, h1, h2, h3, h4, h5, h6, h7, h8, h9⟩ := h
  have e : ∀ k, k < 31 ∨ 35 ≤ k → wO B 31 w' mb' nd' H k = H k := fun k hk => wO_n (by omega)
  exact ⟨(e _ (by omega)).trans h0, h1.kept (fun k _ _ => e k (by omega)), (e _ (by omega)).trans h2, h3.kept (fun k _ _ => e k (by omega)), h4.kept (fun k _ _ => e k (by omega)), h5.kept (fun k _ _ => e k (by omega)), h6.kept (fun k _ _ => e k (by omega)), ⟨wO_o, wO_w, wO_m, wO_d⟩, ⟨(e _ (by omega)).trans h8.1, (e _ (by omega)).trans h8.2⟩, h9.kept (fun k _ _ => e k (by omega))⟩
theorem wX_n {B o len at' : Nat} {C : Nat → Int32} {N : Nat} {S : Nat → Int32} {F : Nat → Nat → Int32} {h : HT} {k : Nat} (hk : k < o ∨ o + 16 ≤ k) : wX B o len at' C N S F h k = h k := (wQ_n (by omega)).trans (by unfold wT; rw [if_neg (by omega), if_neg (by omega)])
theorem CLx.x (h : CLx B N S F f wl len C P Wr V Lr Cr w mb nd a Nd Sd Fd H) (len' a' : Nat) (C' : Nat → Int32) (Nd' : Nat) (Sd' : Nat → Int32) (Fd' : Nat → Nat → Int32) : CLx B N S F f wl len' C' P Wr V Lr Cr w mb nd a' Nd' Sd' Fd' (wX B 35 len' a' C' Nd' Sd' Fd' H) := by
  obtain ⟨h0, h1, h2, h3, h4, h5, h6, h7, h8, h9⟩ := h
  have e : ∀ k, k < 35 ∨ 51 ≤ k → wX B 35 len' a' C' Nd' Sd' Fd' H k = H k := fun k hk => wX_n (by omega)
  exact ⟨(e _ (by omega)).trans h0, h1.kept (fun k _ _ => e k (by omega)), (e _ (by omega)).trans h2, h3.kept (fun k _ _ => e k (by omega)), h4.kept (fun k _ _ => e k (by omega)), h5.kept (fun k _ _ => e k (by omega)), h6.kept (fun k _ _ => e k (by omega)), ⟨(e _ (by omega)).trans h7.1, (e _ (by omega)).trans h7.2.1, (e _ (by omega)).trans h7.2.2.1, (e _ (by omega)).trans h7.2.2.2⟩, ⟨wX_o, wX_c⟩, sQ.w⟩
theorem CLx.xid (h : CLx B N S F f wl len C P Wr V Lr Cr w mb nd a Nd Sd Fd H) : H = wX B 35 len a C Nd Sd Fd H := by
  have h1 := h.2.2.2.2.2.2.2.2.1.id
  have h2 := h.2.2.2.2.2.2.2.2.2.id
  show H = wQ B 36 Nd Sd Fd (wT B 35 len a C H)
  rw [← h1]
  exact h2
end
/-- what later calls can see of the class -/
def CL (B N : Nat) (S : Nat → Int32) (F : Nat → Nat → Int32) (f : Nat → Option Nat) (wl : Int32) (pt : Nat → Int32) (len : Nat) (C : Nat → Int32) (H : HT) : Prop := ∃ (P Wr : Nat → Nat → Int32) (V : Nat → Int32) (Lr Cr : Nat → Nat → Int32) (w : Nat → Int64) (mb nd : Nat → Int32) (a Nd : Nat) (Sd : Nat → Int32) (Fd : Nat → Nat → Int32), CLx B N S F f wl len C P Wr V Lr Cr w mb nd a Nd Sd Fd H ∧ Wr 0 = pt
/-- the other cells stay -/
def tl51 (H H' : HT) : Prop := ∀ k, 51 ≤ k → H' k = H k
