/-! what reading a text leaves -/
/-- alike on the first items, but for the times -/
def Ag (N : Nat) (F F' : Nat → Nat → Int32) : Prop := ∀ i, i < N → ∀ j, j < 13 → j ≠ 6 → j ≠ 7 → j ≠ 8 → F j i = F' j i
theorem apF_at (F : Nat → Nat → Int32) (N : Nat) (a b c d e : Int32) (q j : Nat) : apF F N a b c d e q j = if j = N then (if q = 0 then a else if q = 1 then b else if q = 2 then c else if q = 3 then d else if q = 4 then e else if q = 5 then 0 else if q = 9 then 0 else if q = 10 then -7 else if q = 11 then 0 else if q = 12 then 0 else F q j) else F q j := by
  unfold apF
  by_cases hj : j = N
  · subst hj
    rw [if_pos rfl]
    simp only [uF_at]
    by_cases h10 : q = 10
    · subst h10; rfl
    by_cases h9 : q = 9
    · subst h9; rfl
    by_cases h5 : q = 5
    · subst h5; rfl
    by_cases h12 : q = 12
    · subst h12; rfl
    by_cases h11 : q = 11
    · subst h11; rfl
    by_cases h4 : q = 4
    · subst h4; rfl
    by_cases h3 : q = 3
    · subst h3; rfl
    by_cases h2 : q = 2
    · subst h2; rfl
    by_cases h1 : q = 1
    · subst h1; rfl
    by_cases h0 : q = 0
    · subst h0; rfl
    simp [h0, h1, h2, h3, h4, h5, h9, h10, h11, h12]
  · rw [if_neg hj, uF_i _ _ _ _ hj, uF_i _ _ _ _ hj, uF_i _ _ _ _ hj, uF_i _ _ _ _ hj, uF_i _ _ _ _ hj, uF_i _ _ _ _ hj, uF_i _ _ _ _ hj, uF_i _ _ _ _ hj, uF_i _ _ _ _ hj, uF_i _ _ _ _ hj]
theorem Ag_ap {N : Nat} {F F' : Nat → Nat → Int32} (h : Ag N F F') (a b c d e : Int32) : Ag (N + 1) (apF F N a b c d e) (apF F' N a b c d e) := by
  intro i hi j hj h6 h7 h8
  rw [apF_at, apF_at]
  by_cases ei : i = N
  · rw [if_pos ei, if_pos ei]
    have : j = 0 ∨ j = 1 ∨ j = 2 ∨ j = 3 ∨ j = 4 ∨ j = 5 ∨ j = 9 ∨ j = 10 ∨ j = 11 ∨ j = 12 := by omega
    rcases this with rfl | rfl | rfl | rfl | rfl | rfl | rfl | rfl | rfl | rfl <;> rfl
  · rw [if_neg ei, if_neg ei]; exact h i (by omega) j hj h6 h7 h8
theorem ptF_cong {F F' : Nat → Nat → Int32} {t : Nat} (v : Nat) (k : Int32) (h11 : F 11 t = F' 11 t) (h12 : F 12 t = F' 12 t) : ptF F v t k 11 t = ptF F' v t k 11 t ∧ ptF F v t k 12 t = ptF F' v t k 12 t := by
  unfold ptF
  by_cases hk : k = 0
  · rw [if_pos hk, if_pos hk, uF_s, uF_s, uF_j _ _ _ _ (by decide), uF_j _ _ _ _ (by decide), drF_11, drF_11, drF_12, drF_12, h11, h12]
    exact ⟨rfl, rfl⟩
  · rw [if_neg hk, if_neg hk, uF_s, uF_s, uF_j _ _ _ _ (by decide), uF_j _ _ _ _ (by decide), drF_11, drF_11, drF_12, drF_12, h11, h12]
    exact ⟨rfl, rfl⟩
theorem Ag_pt {N : Nat} {F F' : Nat → Nat → Int32} (h : Ag (N + 1) F F') (v : Nat) (k : Int32) : Ag (N + 1) (ptF F v N k) (ptF F' v N k) := by
  intro i hi j hj h6 h7 h8
  by_cases ei : i = N
  · subst ei
    have hc := ptF_cong (t := i) v k (h i (by omega) 11 (by omega) (by omega) (by omega) (by omega)) (h i (by omega) 12 (by omega) (by omega) (by omega) (by omega))
    by_cases e11 : j = 11
    · subst e11; exact hc.1
    · by_cases e12 : j = 12
      · subst e12; exact hc.2
      · rw [ptF_o F v i k j e11 e12, ptF_o F' v i k j e11 e12]; exact h i hi j hj h6 h7 h8
  · rw [ptF_i F v N k j ei, ptF_i F' v N k j ei]; exact h i hi j hj h6 h7 h8
theorem rE_Ag (C : Nat → Int32) (len N : Nat) : ∀ m F F' a, Ag (N + 1) F F' → (rE C len N m F a).1 = (rE C len N m F' a).1 ∧ (rE C len N m F a).2.2 = (rE C len N m F' a).2.2 ∧ Ag (N + 1) (rE C len N m F a).2.1 (rE C len N m F' a).2.1 := by
  intro m
  induction m with
  | zero => intro F F' a h; exact ⟨rfl, rfl, h⟩
  | succ m ih =>
    intro F F' a h
    have hp : prd F N = prd F' N := by
      unfold prd
      rw [h N (by omega) 11 (by omega) (by omega) (by omega) (by omega), h N (by omega) 12 (by omega) (by omega) (by omega) (by omega)]
    unfold rE
    rw [hp]
    by_cases c1 : cH C len a = 59
    · rw [if_pos c1, if_pos c1]; exact ⟨rfl, rfl, h⟩
    · rw [if_neg c1, if_neg c1]
      by_cases c2 : cH C len a = 60 ∨ cH C len a = 33
      · rw [if_pos c2, if_pos c2]
        cases hv : (rN C len (a + 1)).1 with
        | none => exact ⟨rfl, rfl, h⟩
        | some v =>
          dsimp only
          by_cases c3 : v < N ∧ bt (prd F' N) v = false
          · rw [if_pos c3, if_pos c3]
            exact ih _ _ _ (Ag_pt h v _)
          · rw [if_neg c3, if_neg c3]; exact ⟨rfl, rfl, h⟩
      · rw [if_neg c2, if_neg c2]; exact ⟨rfl, rfl, h⟩
theorem rI_Ag (C : Nat → Int32) (len N : Nat) (F F' : Nat → Nat → Int32) (a : Nat) (h : Ag N F F') : (rI C len N F a).1 = (rI C len N F' a).1 ∧ (rI C len N F a).2.1 = (rI C len N F' a).2.1 ∧ (rI C len N F a).2.2.2 = (rI C len N F' a).2.2.2 ∧ Ag (rI C len N F a).2.1 (rI C len N F a).2.2.1 (rI C len N F' a).2.2.1 := by
  unfold rI
  by_cases c1 : N = 20 ∨ isD (cH C len a) = false
  · rw [if_pos c1, if_pos c1]; exact ⟨rfl, rfl, rfl, h⟩
  · rw [if_neg c1, if_neg c1]
    by_cases c2 : ¬ cH C len (a + 1) = 119
    · rw [if_pos c2, if_pos c2]; exact ⟨rfl, rfl, rfl, h⟩
    · rw [if_neg c2, if_neg c2]
      cases hv : (rN C len (a + 2)).1 with
      | none => exact ⟨rfl, rfl, rfl, h⟩
      | some v =>
        dsimp only
        by_cases c3 : 1 ≤ v ∧ v ≤ 20
        · rw [if_pos c3, if_pos c3]
          have := rE_Ag C len N 200 _ _ (rN C len (a + 2)).2 (Ag_ap h (cH C len a - 48) (nI v) 3 0 0)
          exact ⟨this.1, rfl, this.2.1, this.2.2⟩
        · rw [if_neg c3, if_neg c3]; exact ⟨rfl, rfl, rfl, h⟩
theorem rdL_Ag (C : Nat → Int32) (len : Nat) : ∀ m r N F F' a, Ag N F F' → (rdL C len m r N F a).1 = (rdL C len m r N F' a).1 ∧ (rdL C len m r N F a).2.1 = (rdL C len m r N F' a).2.1 ∧ Ag (rdL C len m r N F a).2.1 (rdL C len m r N F a).2.2.1 (rdL C len m r N F' a).2.2.1 := by
  intro m
  induction m with
  | zero => intro r N F F' a h; exact ⟨rfl, rfl, h⟩
  | succ m ih =>
    intro r N F F' a h
    unfold rdL
    by_cases c : a < len ∧ r = -7
    · rw [if_pos c, if_pos c]
      obtain ⟨h1, h2, h3, h4⟩ := rI_Ag C len N F F' a h
      rw [← h1, ← h2, ← h3]
      exact ih _ _ _ _ _ h4
    · rw [if_neg c, if_neg c]; exact ⟨rfl, rfl, h⟩
theorem rdS_Ag (C : Nat → Int32) (len : Nat) (F F' : Nat → Nat → Int32) : (rdS C len F).1 = (rdS C len F').1 ∧ (rdS C len F).2.1 = (rdS C len F').2.1 ∧ Ag (rdS C len F).2.1 (rdS C len F).2.2.1 (rdS C len F').2.2.1 := rdL_Ag C len 200 (-7) 0 F F' 0 (fun i hi => absurd hi (by omega))
/-- the items of a text -/
def RDi (F : Nat → Nat → Int32) (i : Nat) : Prop := (∃ d, d ≤ 9 ∧ F 0 i = nI d) ∧ (∃ v, 1 ≤ v ∧ v ≤ 20 ∧ F 1 i = nI v) ∧ F 2 i = 3 ∧ F 3 i = 0 ∧ F 4 i = 0 ∧ F 5 i = 0 ∧ F 9 i = 0 ∧ F 10 i = -7 ∧ ∀ p, bt (prd F i) p = true → p < i
def RD (N : Nat) (F : Nat → Nat → Int32) : Prop := ∀ i, i < N → RDi F i
theorem rE_o (C : Nat → Int32) (len N : Nat) : ∀ m F a, (∀ i, i ≠ N → ∀ j, (rE C len N m F a).2.1 j i = F j i) ∧ (∀ j, j ≠ 11 → j ≠ 12 → (rE C len N m F a).2.1 j = F j) ∧ (N ≤ 20 → (∀ p, bt (prd F N) p = true → p < N) → ∀ p, bt (prd (rE C len N m F a).2.1 N) p = true → p < N) := by
  intro m
  induction m with
  | zero => intro F a; exact ⟨fun i _ j => rfl, fun j _ _ => rfl, fun _ h => h⟩
  | succ m ih =>
    intro F a
    unfold rE
    by_cases c1 : cH C len a = 59
    · rw [if_pos c1]; exact ⟨fun i _ j => rfl, fun j _ _ => rfl, fun _ h => h⟩
    · rw [if_neg c1]
      by_cases c2 : cH C len a = 60 ∨ cH C len a = 33
      · rw [if_pos c2]
        cases hv : (rN C len (a + 1)).1 with
        | none => exact ⟨fun i _ j => rfl, fun j _ _ => rfl, fun _ h => h⟩
        | some v =>
          dsimp only
          by_cases c3 : v < N ∧ bt (prd F N) v = false
          · rw [if_pos c3]
            obtain ⟨i1, i2, i3⟩ := ih (ptF F v N (if cH C len a = 60 then 0 else 1)) (rN C len (a + 1)).2
            refine ⟨fun i hi j => by rw [i1 i hi j, ptF_i F v N _ j hi], fun j h1 h2 => by rw [i2 j h1 h2, ptF_o F v N _ j h1 h2], fun hN h => i3 hN (fun p hp => ?_)⟩
            obtain ⟨b1, b2⟩ := bt_pt F (show v < 32 by omega) N (if cH C len a = 60 then 0 else 1) p
            rw [bt_prd, b1, b2] at hp
            by_cases e : p = v
            · omega
            · rw [if_neg e, if_neg e] at hp
              exact h p (by rw [bt_prd]; exact hp)
          · rw [if_neg c3]; exact ⟨fun i _ j => rfl, fun j _ _ => rfl, fun _ h => h⟩
      · rw [if_neg c2]; exact ⟨fun i _ j => rfl, fun j _ _ => rfl, fun _ h => h⟩
theorem RDi_cong {F F' : Nat → Nat → Int32} {i : Nat} (h : ∀ j, F' j i = F j i) (hr : RDi F i) : RDi F' i := by
  unfold RDi prd at *
  rw [h 0, h 1, h 2, h 3, h 4, h 5, h 9, h 10, h 11, h 12]
  exact hr
theorem rI_RD (C : Nat → Int32) (len N : Nat) (F : Nat → Nat → Int32) (a : Nat) (hN : N ≤ 20) (h : RD N F) : RD (rI C len N F a).2.1 (rI C len N F a).2.2.1 := by
  unfold rI
  by_cases c1 : N = 20 ∨ isD (cH C len a) = false
  · rw [if_pos c1]; exact h
  · rw [if_neg c1]
    by_cases c2 : ¬ cH C len (a + 1) = 119
    · rw [if_pos c2]; exact h
    · rw [if_neg c2]
      cases hv : (rN C len (a + 2)).1 with
      | none => exact h
      | some v =>
        dsimp only
        by_cases c3 : 1 ≤ v ∧ v ≤ 20
        · rw [if_pos c3]
          obtain ⟨o1, o2, o3⟩ := rE_o C len N 200 (apF F N (cH C len a - 48) (nI v) 3 0 0) (rN C len (a + 2)).2
          intro i hi
          have hi : i < N + 1 := hi
          by_cases ei : i = N
          · subst ei
            have e : ∀ q, apF F i (cH C len a - 48) (nI v) 3 0 0 q i = (if q = 0 then cH C len a - 48 else if q = 1 then nI v else if q = 2 then 3 else if q = 3 then 0 else if q = 4 then 0 else if q = 5 then 0 else if q = 9 then 0 else if q = 10 then -7 else if q = 11 then 0 else if q = 12 then 0 else F q i) := fun q => by rw [apF_at, if_pos rfl]
            have hd : isD (cH C len a) = true := by
              cases hz : isD (cH C len a) with
              | true => rfl
              | false => exact absurd (Or.inr hz) c1
            obtain ⟨d1, d2, d3⟩ := isD_dv hd
            refine ⟨⟨dv (cH C len a), d2, ?_⟩, ⟨v, c3.1, c3.2, ?_⟩, ?_, ?_, ?_, ?_, ?_, ?_, o3 hN (fun p hp => ?_)⟩
            · rw [o2 0 (by decide) (by decide), e]; exact d1
            · rw [o2 1 (by decide) (by decide), e]; rfl
            · rw [o2 2 (by decide) (by decide), e]; rfl
            · rw [o2 3 (by decide) (by decide), e]; rfl
            · rw [o2 4 (by decide) (by decide), e]; rfl
            · rw [o2 5 (by decide) (by decide), e]; rfl
            · rw [o2 9 (by decide) (by decide), e]; rfl
            · rw [o2 10 (by decide) (by decide), e]; rfl
            · rw [bt_prd, e, e] at hp
              have hp : (bt 0 p || bt 0 p) = true := hp
              rw [b_0] at hp; cases hp
          · exact RDi_cong (fun j => by rw [o1 i ei j, apF_at, if_neg ei]) (h i (by omega))
        · rw [if_neg c3]; exact h
theorem rdL_RD (C : Nat → Int32) (len : Nat) : ∀ m r N F a, N ≤ 20 → RD N F → (rdL C len m r N F a).2.1 ≤ 20 ∧ RD (rdL C len m r N F a).2.1 (rdL C len m r N F a).2.2.1 := by
  intro m
  induction m with
  | zero => intro r N F a hN h; exact ⟨hN, h⟩
  | succ m ih =>
    intro r N F a hN h
    unfold rdL
    by_cases c : a < len ∧ r = -7
    · rw [if_pos c]
      exact ih _ _ _ _ (rI_le C F c.1 hN).2 (rI_RD C len N F a hN h)
    · rw [if_neg c]; exact ⟨hN, h⟩
theorem rdS_RD (C : Nat → Int32) (len : Nat) (F : Nat → Nat → Int32) : (rdS C len F).2.1 ≤ 20 ∧ RD (rdS C len F).2.1 (rdS C len F).2.2.1 := rdL_RD C len 200 (-7) 0 F 0 (by omega) (fun i hi => absurd hi (by omega))
