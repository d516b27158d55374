/-! field and method links by lookup -/
def asc {α : Type} : List (Nat × α) → Nat → Option α
  | [], _ => none
  | a :: l, i => bif a.1 == i then some a.2 else asc l i
theorem asc_mem {α : Type} (l : List (Nat × α)) (i : Nat) (v : α) (h : asc l i = some v) : (i, v) ∈ l := by
  induction l with
  | nil => cases h
  | cons a l ih =>
    unfold asc at h
    cases hq : a.1 == i with
    | true =>
      rw [hq] at h
      have e1 : a.1 = i := by simpa using hq
      have e2 : a.2 = v := Option.some.inj h
      exact List.mem_cons.mpr (Or.inl (by rw [← e1, ← e2]))
    | false =>
      rw [hq] at h
      exact List.mem_cons_of_mem _ (ih h)
def ft0 : List (Nat × Nat × Nat) := []
theorem ft0_ok : ∀ q ∈ ft0, FLc 0 q.1 q.2.1 q.2.2 := by
  unfold ft0
  exact fun _ h => absurd h List.not_mem_nil
def ft1 : List (Nat × Nat × Nat) := [(9, 1, 0), (15, 1, 1), (18, 1, 2)]
theorem ft1_ok : ∀ q ∈ ft1, FLc 1 q.1 q.2.1 q.2.2 := by
  unfold ft1
  exact List.forall_mem_cons.mpr ⟨fl1_9, List.forall_mem_cons.mpr ⟨fl1_15, List.forall_mem_cons.mpr ⟨fl1_18, fun _ h => absurd h List.not_mem_nil⟩⟩⟩
def ft2 : List (Nat × Nat × Nat) := [(9, 2, 0), (15, 2, 1), (19, 2, 2)]
theorem ft2_ok : ∀ q ∈ ft2, FLc 2 q.1 q.2.1 q.2.2 := by
  unfold ft2
  exact List.forall_mem_cons.mpr ⟨fl2_9, List.forall_mem_cons.mpr ⟨fl2_15, List.forall_mem_cons.mpr ⟨fl2_19, fun _ h => absurd h List.not_mem_nil⟩⟩⟩
def ft3 : List (Nat × Nat × Nat) := [(9, 3, 1), (15, 3, 2), (18, 3, 3), (21, 3, 0), (25, 5, 0)]
theorem ft3_ok : ∀ q ∈ ft3, FLc 3 q.1 q.2.1 q.2.2 := by
  unfold ft3
  exact List.forall_mem_cons.mpr ⟨fl3_9, List.forall_mem_cons.mpr ⟨fl3_15, List.forall_mem_cons.mpr ⟨fl3_18, List.forall_mem_cons.mpr ⟨fl3_21, List.forall_mem_cons.mpr ⟨fl3_25, fun _ h => absurd h List.not_mem_nil⟩⟩⟩⟩⟩
def ft4 : List (Nat × Nat × Nat) := [(9, 4, 0), (15, 4, 1), (19, 4, 2), (22, 4, 3), (25, 4, 4), (28, 4, 5), (31, 4, 6), (34, 4, 7), (43, 5, 0), (79, 5, 6)]
theorem ft4_ok : ∀ q ∈ ft4, FLc 4 q.1 q.2.1 q.2.2 := by
  unfold ft4
  exact List.forall_mem_cons.mpr ⟨fl4_9, List.forall_mem_cons.mpr ⟨fl4_15, List.forall_mem_cons.mpr ⟨fl4_19, List.forall_mem_cons.mpr ⟨fl4_22, List.forall_mem_cons.mpr ⟨fl4_25, List.forall_mem_cons.mpr ⟨fl4_28, List.forall_mem_cons.mpr ⟨fl4_31, List.forall_mem_cons.mpr ⟨fl4_34, List.forall_mem_cons.mpr ⟨fl4_43, List.forall_mem_cons.mpr ⟨fl4_79, fun _ h => absurd h List.not_mem_nil⟩⟩⟩⟩⟩⟩⟩⟩⟩⟩
def ft5 : List (Nat × Nat × Nat) := [(9, 5, 0), (15, 5, 1), (18, 5, 2), (21, 5, 3), (24, 5, 4), (27, 5, 5), (31, 5, 6), (34, 5, 7), (37, 5, 8), (40, 5, 9), (43, 5, 10), (46, 5, 11), (49, 5, 12), (52, 5, 13), (55, 5, 14), (58, 5, 15), (61, 5, 16), (64, 5, 17)]
theorem ft5_ok : ∀ q ∈ ft5, FLc 5 q.1 q.2.1 q.2.2 := by
  unfold ft5
  exact List.forall_mem_cons.mpr ⟨fl5_9, List.forall_mem_cons.mpr ⟨fl5_15, List.forall_mem_cons.mpr ⟨fl5_18, List.forall_mem_cons.mpr ⟨fl5_21, List.forall_mem_cons.mpr ⟨fl5_24, List.forall_mem_cons.mpr ⟨fl5_27, List.forall_mem_cons.mpr ⟨fl5_31, List.forall_mem_cons.mpr ⟨fl5_34, List.forall_mem_cons.mpr ⟨fl5_37, List.forall_mem_cons.mpr ⟨fl5_40, List.forall_mem_cons.mpr ⟨fl5_43, List.forall_mem_cons.mpr ⟨fl5_46, List.forall_mem_cons.mpr ⟨fl5_49, List.forall_mem_cons.mpr ⟨fl5_52, List.forall_mem_cons.mpr ⟨fl5_55, List.forall_mem_cons.mpr ⟨fl5_58, List.forall_mem_cons.mpr ⟨fl5_61, List.forall_mem_cons.mpr ⟨fl5_64, fun _ h => absurd h List.not_mem_nil⟩⟩⟩⟩⟩⟩⟩⟩⟩⟩⟩⟩⟩⟩⟩⟩⟩⟩
def ft6 : List (Nat × Nat × Nat) := [(9, 6, 0), (18, 6, 1), (22, 6, 2), (26, 6, 3)]
theorem ft6_ok : ∀ q ∈ ft6, FLc 6 q.1 q.2.1 q.2.2 := by
  unfold ft6
  exact List.forall_mem_cons.mpr ⟨fl6_9, List.forall_mem_cons.mpr ⟨fl6_18, List.forall_mem_cons.mpr ⟨fl6_22, List.forall_mem_cons.mpr ⟨fl6_26, fun _ h => absurd h List.not_mem_nil⟩⟩⟩⟩
def ft7 : List (Nat × Nat × Nat) := [(9, 7, 0), (15, 7, 1), (19, 7, 2), (39, 5, 0)]
theorem ft7_ok : ∀ q ∈ ft7, FLc 7 q.1 q.2.1 q.2.2 := by
  unfold ft7
  exact List.forall_mem_cons.mpr ⟨fl7_9, List.forall_mem_cons.mpr ⟨fl7_15, List.forall_mem_cons.mpr ⟨fl7_19, List.forall_mem_cons.mpr ⟨fl7_39, fun _ h => absurd h List.not_mem_nil⟩⟩⟩⟩
def ft8 : List (Nat × Nat × Nat) := [(10, 8, 0), (16, 8, 1), (25, 8, 2), (32, 8, 3), (39, 8, 4), (46, 8, 5), (53, 8, 6), (60, 8, 7), (112, 7, 0), (116, 7, 1), (130, 5, 5), (133, 5, 2), (136, 5, 3), (139, 5, 0), (158, 5, 15), (168, 5, 14), (174, 5, 10), (177, 5, 13), (180, 5, 1), (196, 5, 6), (199, 5, 7), (202, 5, 8), (205, 5, 9), (208, 5, 11), (228, 4, 0), (229, 4, 1), (258, 6, 0), (264, 6, 1)]
theorem ft8_ok : ∀ q ∈ ft8, FLc 8 q.1 q.2.1 q.2.2 := by
  unfold ft8
  exact List.forall_mem_cons.mpr ⟨fl8_10, List.forall_mem_cons.mpr ⟨fl8_16, List.forall_mem_cons.mpr ⟨fl8_25, List.forall_mem_cons.mpr ⟨fl8_32, List.forall_mem_cons.mpr ⟨fl8_39, List.forall_mem_cons.mpr ⟨fl8_46, List.forall_mem_cons.mpr ⟨fl8_53, List.forall_mem_cons.mpr ⟨fl8_60, List.forall_mem_cons.mpr ⟨fl8_112, List.forall_mem_cons.mpr ⟨fl8_116, List.forall_mem_cons.mpr ⟨fl8_130, List.forall_mem_cons.mpr ⟨fl8_133, List.forall_mem_cons.mpr ⟨fl8_136, List.forall_mem_cons.mpr ⟨fl8_139, List.forall_mem_cons.mpr ⟨fl8_158, List.forall_mem_cons.mpr ⟨fl8_168, List.forall_mem_cons.mpr ⟨fl8_174, List.forall_mem_cons.mpr ⟨fl8_177, List.forall_mem_cons.mpr ⟨fl8_180, List.forall_mem_cons.mpr ⟨fl8_196, List.forall_mem_cons.mpr ⟨fl8_199, List.forall_mem_cons.mpr ⟨fl8_202, List.forall_mem_cons.mpr ⟨fl8_205, List.forall_mem_cons.mpr ⟨fl8_208, List.forall_mem_cons.mpr ⟨fl8_228, List.forall_mem_cons.mpr ⟨fl8_229, List.forall_mem_cons.mpr ⟨fl8_258, List.forall_mem_cons.mpr ⟨fl8_264, fun _ h => absurd h List.not_mem_nil⟩⟩⟩⟩⟩⟩⟩⟩⟩⟩⟩⟩⟩⟩⟩⟩⟩⟩⟩⟩⟩⟩⟩⟩⟩⟩⟩⟩
def ft9 : List (Nat × Nat × Nat) := [(7, 9, 0), (13, 9, 1), (16, 9, 3), (19, 9, 5), (22, 9, 9), (25, 9, 10), (28, 9, 11), (31, 9, 12), (34, 9, 13), (37, 9, 14), (40, 9, 15), (43, 9, 16), (46, 9, 17), (49, 9, 18), (53, 9, 19), (56, 9, 22), (59, 9, 23), (62, 9, 24), (84, 9, 7), (88, 9, 8), (106, 9, 4), (166, 9, 6), (169, 9, 20), (172, 9, 21), (182, 9, 25), (194, 9, 2)]
theorem ft9_ok : ∀ q ∈ ft9, FLc 9 q.1 q.2.1 q.2.2 := by
  unfold ft9
  exact List.forall_mem_cons.mpr ⟨fl9_7, List.forall_mem_cons.mpr ⟨fl9_13, List.forall_mem_cons.mpr ⟨fl9_16, List.forall_mem_cons.mpr ⟨fl9_19, List.forall_mem_cons.mpr ⟨fl9_22, List.forall_mem_cons.mpr ⟨fl9_25, List.forall_mem_cons.mpr ⟨fl9_28, List.forall_mem_cons.mpr ⟨fl9_31, List.forall_mem_cons.mpr ⟨fl9_34, List.forall_mem_cons.mpr ⟨fl9_37, List.forall_mem_cons.mpr ⟨fl9_40, List.forall_mem_cons.mpr ⟨fl9_43, List.forall_mem_cons.mpr ⟨fl9_46, List.forall_mem_cons.mpr ⟨fl9_49, List.forall_mem_cons.mpr ⟨fl9_53, List.forall_mem_cons.mpr ⟨fl9_56, List.forall_mem_cons.mpr ⟨fl9_59, List.forall_mem_cons.mpr ⟨fl9_62, List.forall_mem_cons.mpr ⟨fl9_84, List.forall_mem_cons.mpr ⟨fl9_88, List.forall_mem_cons.mpr ⟨fl9_106, List.forall_mem_cons.mpr ⟨fl9_166, List.forall_mem_cons.mpr ⟨fl9_169, List.forall_mem_cons.mpr ⟨fl9_172, List.forall_mem_cons.mpr ⟨fl9_182, List.forall_mem_cons.mpr ⟨fl9_194, fun _ h => absurd h List.not_mem_nil⟩⟩⟩⟩⟩⟩⟩⟩⟩⟩⟩⟩⟩⟩⟩⟩⟩⟩⟩⟩⟩⟩⟩⟩⟩⟩
def fld : Nat → Nat → Option (Nat × Nat) := fun own => match own with
  | 0 => asc ft0
  | 1 => asc ft1
  | 2 => asc ft2
  | 3 => asc ft3
  | 4 => asc ft4
  | 5 => asc ft5
  | 6 => asc ft6
  | 7 => asc ft7
  | 8 => asc ft8
  | 9 => asc ft9
  | _ => fun _ => none
theorem fld_ok {own idx ci k : Nat} (h : fld own idx = some (ci, k)) : FLc own idx ci k := by
  match own, h with
  | 0, h => exact ft0_ok (idx, ci, k) (asc_mem _ _ _ h)
  | 1, h => exact ft1_ok (idx, ci, k) (asc_mem _ _ _ h)
  | 2, h => exact ft2_ok (idx, ci, k) (asc_mem _ _ _ h)
  | 3, h => exact ft3_ok (idx, ci, k) (asc_mem _ _ _ h)
  | 4, h => exact ft4_ok (idx, ci, k) (asc_mem _ _ _ h)
  | 5, h => exact ft5_ok (idx, ci, k) (asc_mem _ _ _ h)
  | 6, h => exact ft6_ok (idx, ci, k) (asc_mem _ _ _ h)
  | 7, h => exact ft7_ok (idx, ci, k) (asc_mem _ _ _ h)
  | 8, h => exact ft8_ok (idx, ci, k) (asc_mem _ _ _ h)
  | 9, h => exact ft9_ok (idx, ci, k) (asc_mem _ _ _ h)
  | n + 10, h => cases h
def CaP (own idx kind : Nat) (y' : MT) : Prop := MOk y' ∧ OwnOk y' ∧ ∀ y : MT, M_own y = own → OwnOk y → (kind = 0 → LkV y idx y') ∧ (kind = 1 → LkS y idx y') ∧ (kind = 2 → LkI y idx y') ∧ (kind = 11 → LkSN y idx y') ∧ (kind = 12 → LkIN y idx y')
theorem own_cls {y : MT} {own : Nat} {q : vw_C} (h : M_own y = own) (ho : OwnOk y) (hq : clG[own]? = some q) : (M_nm y).cls = q.1 := (ho q (by rw [h]; exact hq)).symm
def ct0 : List (Nat × Nat × MT) := []
theorem ct0_ok : ∀ q ∈ ct0, CaP 0 q.1 q.2.1 q.2.2 := by
  unfold ct0
  exact fun _ h => absurd h List.not_mem_nil
theorem ca1_21 : CaP 1 21 1 M0_has := ⟨ok0_has, ow0_has, fun y h ho => ⟨fun z => (nomatch z), fun _ => (lv1_0_has (own_cls h ho rfl)), fun z => (nomatch z), fun z => (nomatch z), fun z => (nomatch z)⟩⟩
theorem ca1_27 : CaP 1 27 0 M1_findNext := ⟨ok1_findNext, ow1_findNext, fun y h ho => ⟨fun _ => (lv1_1_findNext (own_cls h ho rfl)), fun z => (nomatch z), fun z => (nomatch z), fun z => (nomatch z), fun z => (nomatch z)⟩⟩
theorem ca1_31 : CaP 1 31 1 M1_lowestOf := ⟨ok1_lowestOf, ow1_lowestOf, fun y h ho => ⟨fun z => (nomatch z), fun _ => (lv1_1_lowestOf (own_cls h ho rfl)), fun z => (nomatch z), fun z => (nomatch z), fun z => (nomatch z)⟩⟩
theorem ca1_35 : CaP 1 35 0 M1_pairAlong := ⟨ok1_pairAlong, ow1_pairAlong, fun y h ho => ⟨fun _ => (lv1_1_pairAlong (own_cls h ho rfl)), fun z => (nomatch z), fun z => (nomatch z), fun z => (nomatch z), fun z => (nomatch z)⟩⟩
def ct1 : List (Nat × Nat × MT) := [(21, 1, M0_has), (27, 0, M1_findNext), (31, 1, M1_lowestOf), (35, 0, M1_pairAlong)]
theorem ct1_ok : ∀ q ∈ ct1, CaP 1 q.1 q.2.1 q.2.2 := by
  unfold ct1
  exact List.forall_mem_cons.mpr ⟨ca1_21, List.forall_mem_cons.mpr ⟨ca1_27, List.forall_mem_cons.mpr ⟨ca1_31, List.forall_mem_cons.mpr ⟨ca1_35, fun _ h => absurd h List.not_mem_nil⟩⟩⟩⟩
theorem ca2_22 : CaP 2 22 0 M2_listMembers := ⟨ok2_listMembers, ow2_listMembers, fun y h ho => ⟨fun _ => (lv2_2_listMembers (own_cls h ho rfl)), fun z => (nomatch z), fun z => (nomatch z), fun z => (nomatch z), fun z => (nomatch z)⟩⟩
theorem ca2_26 : CaP 2 26 0 M2_listNeeds := ⟨ok2_listNeeds, ow2_listNeeds, fun y h ho => ⟨fun _ => (lv2_2_listNeeds (own_cls h ho rfl)), fun z => (nomatch z), fun z => (nomatch z), fun z => (nomatch z), fun z => (nomatch z)⟩⟩
theorem ca2_30 : CaP 2 30 0 M2_goOnFrom := ⟨ok2_goOnFrom, ow2_goOnFrom, fun y h ho => ⟨fun _ => (lv2_2_goOnFrom (own_cls h ho rfl)), fun z => (nomatch z), fun z => (nomatch z), fun z => (nomatch z), fun z => (nomatch z)⟩⟩
theorem ca2_34 : CaP 2 34 1 M0_has := ⟨ok0_has, ow0_has, fun y h ho => ⟨fun z => (nomatch z), fun _ => (lv2_0_has (own_cls h ho rfl)), fun z => (nomatch z), fun z => (nomatch z), fun z => (nomatch z)⟩⟩
def ct2 : List (Nat × Nat × MT) := [(22, 0, M2_listMembers), (26, 0, M2_listNeeds), (30, 0, M2_goOnFrom), (34, 1, M0_has)]
theorem ct2_ok : ∀ q ∈ ct2, CaP 2 q.1 q.2.1 q.2.2 := by
  unfold ct2
  exact List.forall_mem_cons.mpr ⟨ca2_22, List.forall_mem_cons.mpr ⟨ca2_26, List.forall_mem_cons.mpr ⟨ca2_30, List.forall_mem_cons.mpr ⟨ca2_34, fun _ h => absurd h List.not_mem_nil⟩⟩⟩⟩
theorem ca3_31 : CaP 3 31 0 M5_predecessors := ⟨ok5_predecessors, ow5_predecessors, fun y h ho => ⟨fun _ => (lv3_5_predecessors (own_cls h ho rfl)), fun z => (nomatch z), fun z => (nomatch z), fun z => (nomatch z), fun z => (nomatch z)⟩⟩
theorem ca3_35 : CaP 3 35 1 M0_has := ⟨ok0_has, ow0_has, fun y h ho => ⟨fun z => (nomatch z), fun _ => (lv3_0_has (own_cls h ho rfl)), fun z => (nomatch z), fun z => (nomatch z), fun z => (nomatch z)⟩⟩
theorem ca3_41 : CaP 3 41 0 M3_beforeSets := ⟨ok3_beforeSets, ow3_beforeSets, fun y h ho => ⟨fun _ => (lv3_3_beforeSets (own_cls h ho rfl)), fun z => (nomatch z), fun z => (nomatch z), fun z => (nomatch z), fun z => (nomatch z)⟩⟩
theorem ca3_45 : CaP 3 45 0 M5_workLeft := ⟨ok5_workLeft, ow5_workLeft, fun y h ho => ⟨fun _ => (lv3_5_workLeft (own_cls h ho rfl)), fun z => (nomatch z), fun z => (nomatch z), fun z => (nomatch z), fun z => (nomatch z)⟩⟩
theorem ca3_48 : CaP 3 48 0 M3_raisePredecessors := ⟨ok3_raisePredecessors, ow3_raisePredecessors, fun y h ho => ⟨fun _ => (lv3_3_raisePredecessors (own_cls h ho rfl)), fun z => (nomatch z), fun z => (nomatch z), fun z => (nomatch z), fun z => (nomatch z)⟩⟩
theorem ca3_52 : CaP 3 52 0 M3_raiseLead := ⟨ok3_raiseLead, ow3_raiseLead, fun y h ho => ⟨fun _ => (lv3_3_raiseLead (own_cls h ho rfl)), fun z => (nomatch z), fun z => (nomatch z), fun z => (nomatch z), fun z => (nomatch z)⟩⟩
def ct3 : List (Nat × Nat × MT) := [(31, 0, M5_predecessors), (35, 1, M0_has), (41, 0, M3_beforeSets), (45, 0, M5_workLeft), (48, 0, M3_raisePredecessors), (52, 0, M3_raiseLead)]
theorem ct3_ok : ∀ q ∈ ct3, CaP 3 q.1 q.2.1 q.2.2 := by
  unfold ct3
  exact List.forall_mem_cons.mpr ⟨ca3_31, List.forall_mem_cons.mpr ⟨ca3_35, List.forall_mem_cons.mpr ⟨ca3_41, List.forall_mem_cons.mpr ⟨ca3_45, List.forall_mem_cons.mpr ⟨ca3_48, List.forall_mem_cons.mpr ⟨ca3_52, fun _ h => absurd h List.not_mem_nil⟩⟩⟩⟩⟩⟩
theorem ca4_37 : CaP 4 37 0 M5_unendedSet := ⟨ok5_unendedSet, ow5_unendedSet, fun y h ho => ⟨fun _ => (lv4_5_unendedSet (own_cls h ho rfl)), fun z => (nomatch z), fun z => (nomatch z), fun z => (nomatch z), fun z => (nomatch z)⟩⟩
theorem ca4_46 : CaP 4 46 0 M4_endCompleted := ⟨ok4_endCompleted, ow4_endCompleted, fun y h ho => ⟨fun _ => (lv4_4_endCompleted (own_cls h ho rfl)), fun z => (nomatch z), fun z => (nomatch z), fun z => (nomatch z), fun z => (nomatch z)⟩⟩
theorem ca4_50 : CaP 4 50 0 M4_findStartable := ⟨ok4_findStartable, ow4_findStartable, fun y h ho => ⟨fun _ => (lv4_4_findStartable (own_cls h ho rfl)), fun z => (nomatch z), fun z => (nomatch z), fun z => (nomatch z), fun z => (nomatch z)⟩⟩
theorem ca4_54 : CaP 4 54 0 M4_startItems := ⟨ok4_startItems, ow4_startItems, fun y h ho => ⟨fun _ => (lv4_4_startItems (own_cls h ho rfl)), fun z => (nomatch z), fun z => (nomatch z), fun z => (nomatch z), fun z => (nomatch z)⟩⟩
theorem ca4_58 : CaP 4 58 0 M4_nextEnd := ⟨ok4_nextEnd, ow4_nextEnd, fun y h ho => ⟨fun _ => (lv4_4_nextEnd (own_cls h ho rfl)), fun z => (nomatch z), fun z => (nomatch z), fun z => (nomatch z), fun z => (nomatch z)⟩⟩
theorem ca4_62 : CaP 4 62 1 M0_has := ⟨ok0_has, ow0_has, fun y h ho => ⟨fun z => (nomatch z), fun _ => (lv4_0_has (own_cls h ho rfl)), fun z => (nomatch z), fun z => (nomatch z), fun z => (nomatch z)⟩⟩
theorem ca4_68 : CaP 4 68 0 M5_predecessors := ⟨ok5_predecessors, ow5_predecessors, fun y h ho => ⟨fun _ => (lv4_5_predecessors (own_cls h ho rfl)), fun z => (nomatch z), fun z => (nomatch z), fun z => (nomatch z), fun z => (nomatch z)⟩⟩
theorem ca4_71 : CaP 4 71 0 M4_bestStartable := ⟨ok4_bestStartable, ow4_bestStartable, fun y h ho => ⟨fun _ => (lv4_4_bestStartable (own_cls h ho rfl)), fun z => (nomatch z), fun z => (nomatch z), fun z => (nomatch z), fun z => (nomatch z)⟩⟩
theorem ca4_75 : CaP 4 75 0 M5_holds := ⟨ok5_holds, ow5_holds, fun y h ho => ⟨fun _ => (lv4_5_holds (own_cls h ho rfl)), fun z => (nomatch z), fun z => (nomatch z), fun z => (nomatch z), fun z => (nomatch z)⟩⟩
theorem ca4_82 : CaP 4 82 0 M5_rankFor := ⟨ok5_rankFor, ow5_rankFor, fun y h ho => ⟨fun _ => (lv4_5_rankFor (own_cls h ho rfl)), fun z => (nomatch z), fun z => (nomatch z), fun z => (nomatch z), fun z => (nomatch z)⟩⟩
def ct4 : List (Nat × Nat × MT) := [(37, 0, M5_unendedSet), (46, 0, M4_endCompleted), (50, 0, M4_findStartable), (54, 0, M4_startItems), (58, 0, M4_nextEnd), (62, 1, M0_has), (68, 0, M5_predecessors), (71, 0, M4_bestStartable), (75, 0, M5_holds), (82, 0, M5_rankFor)]
theorem ct4_ok : ∀ q ∈ ct4, CaP 4 q.1 q.2.1 q.2.2 := by
  unfold ct4
  exact List.forall_mem_cons.mpr ⟨ca4_37, List.forall_mem_cons.mpr ⟨ca4_46, List.forall_mem_cons.mpr ⟨ca4_50, List.forall_mem_cons.mpr ⟨ca4_54, List.forall_mem_cons.mpr ⟨ca4_58, List.forall_mem_cons.mpr ⟨ca4_62, List.forall_mem_cons.mpr ⟨ca4_68, List.forall_mem_cons.mpr ⟨ca4_71, List.forall_mem_cons.mpr ⟨ca4_75, List.forall_mem_cons.mpr ⟨ca4_82, fun _ h => absurd h List.not_mem_nil⟩⟩⟩⟩⟩⟩⟩⟩⟩⟩
theorem ca5_67 : CaP 5 67 0 M5_hasEnded := ⟨ok5_hasEnded, ow5_hasEnded, fun y h ho => ⟨fun _ => (lv5_5_hasEnded (own_cls h ho rfl)), fun z => (nomatch z), fun z => (nomatch z), fun z => (nomatch z), fun z => (nomatch z)⟩⟩
theorem ca5_71 : CaP 5 71 0 M5_setIn := ⟨ok5_setIn, ow5_setIn, fun y h ho => ⟨fun _ => (lv5_5_setIn (own_cls h ho rfl)), fun z => (nomatch z), fun z => (nomatch z), fun z => (nomatch z), fun z => (nomatch z)⟩⟩
theorem ca5_75 : CaP 5 75 0 M5_startAnew := ⟨ok5_startAnew, ow5_startAnew, fun y h ho => ⟨fun _ => (lv5_5_startAnew (own_cls h ho rfl)), fun z => (nomatch z), fun z => (nomatch z), fun z => (nomatch z), fun z => (nomatch z)⟩⟩
theorem ca5_79 : CaP 5 79 0 M5_predecessors := ⟨ok5_predecessors, ow5_predecessors, fun y h ho => ⟨fun _ => (lv5_5_predecessors (own_cls h ho rfl)), fun z => (nomatch z), fun z => (nomatch z), fun z => (nomatch z), fun z => (nomatch z)⟩⟩
theorem ca5_82 : CaP 5 82 1 M6_bitCount_0f7a4 := ⟨ok6_bitCount_0f7a4, ow6_bitCount_0f7a4, fun y h ho => ⟨fun z => (nomatch z), fun _ => (lv5_6_bitCount_0f7a4 (own_cls h ho rfl)), fun z => (nomatch z), fun z => (nomatch z), fun z => (nomatch z)⟩⟩
theorem ca5_87 : CaP 5 87 1 M0_has := ⟨ok0_has, ow0_has, fun y h ho => ⟨fun z => (nomatch z), fun _ => (lv5_0_has (own_cls h ho rfl)), fun z => (nomatch z), fun z => (nomatch z), fun z => (nomatch z)⟩⟩
theorem ca5_93 : CaP 5 93 0 M5_dropEdge := ⟨ok5_dropEdge, ow5_dropEdge, fun y h ho => ⟨fun _ => (lv5_5_dropEdge (own_cls h ho rfl)), fun z => (nomatch z), fun z => (nomatch z), fun z => (nomatch z), fun z => (nomatch z)⟩⟩
theorem ca5_97 : CaP 5 97 0 M5_settleItem := ⟨ok5_settleItem, ow5_settleItem, fun y h ho => ⟨fun _ => (lv5_5_settleItem (own_cls h ho rfl)), fun z => (nomatch z), fun z => (nomatch z), fun z => (nomatch z), fun z => (nomatch z)⟩⟩
theorem ca5_100 : CaP 5 100 0 M5_followsEdges := ⟨ok5_followsEdges, ow5_followsEdges, fun y h ho => ⟨fun _ => (lv5_5_followsEdges (own_cls h ho rfl)), fun z => (nomatch z), fun z => (nomatch z), fun z => (nomatch z), fun z => (nomatch z)⟩⟩
theorem ca5_103 : CaP 5 103 0 M5_stateByEdges := ⟨ok5_stateByEdges, ow5_stateByEdges, fun y h ho => ⟨fun _ => (lv5_5_stateByEdges (own_cls h ho rfl)), fun z => (nomatch z), fun z => (nomatch z), fun z => (nomatch z), fun z => (nomatch z)⟩⟩
theorem ca5_106 : CaP 5 106 0 M5_makeReady := ⟨ok5_makeReady, ow5_makeReady, fun y h ho => ⟨fun _ => (lv5_5_makeReady (own_cls h ho rfl)), fun z => (nomatch z), fun z => (nomatch z), fun z => (nomatch z), fun z => (nomatch z)⟩⟩
theorem ca5_109 : CaP 5 109 0 M5_hasFailed := ⟨ok5_hasFailed, ow5_hasFailed, fun y h ho => ⟨fun _ => (lv5_5_hasFailed (own_cls h ho rfl)), fun z => (nomatch z), fun z => (nomatch z), fun z => (nomatch z), fun z => (nomatch z)⟩⟩
theorem ca5_112 : CaP 5 112 0 M5_settle := ⟨ok5_settle, ow5_settle, fun y h ho => ⟨fun _ => (lv5_5_settle (own_cls h ho rfl)), fun z => (nomatch z), fun z => (nomatch z), fun z => (nomatch z), fun z => (nomatch z)⟩⟩
theorem ca5_115 : CaP 5 115 0 M5_comeBack := ⟨ok5_comeBack, ow5_comeBack, fun y h ho => ⟨fun _ => (lv5_5_comeBack (own_cls h ho rfl)), fun z => (nomatch z), fun z => (nomatch z), fun z => (nomatch z), fun z => (nomatch z)⟩⟩
theorem ca5_118 : CaP 5 118 0 M5_rankFor := ⟨ok5_rankFor, ow5_rankFor, fun y h ho => ⟨fun _ => (lv5_5_rankFor (own_cls h ho rfl)), fun z => (nomatch z), fun z => (nomatch z), fun z => (nomatch z), fun z => (nomatch z)⟩⟩
theorem ca5_122 : CaP 5 122 0 M5_canBeReceived := ⟨ok5_canBeReceived, ow5_canBeReceived, fun y h ho => ⟨fun _ => (lv5_5_canBeReceived (own_cls h ho rfl)), fun z => (nomatch z), fun z => (nomatch z), fun z => (nomatch z), fun z => (nomatch z)⟩⟩
theorem ca5_125 : CaP 5 125 0 M5_rankNow := ⟨ok5_rankNow, ow5_rankNow, fun y h ho => ⟨fun _ => (lv5_5_rankNow (own_cls h ho rfl)), fun z => (nomatch z), fun z => (nomatch z), fun z => (nomatch z), fun z => (nomatch z)⟩⟩
theorem ca5_129 : CaP 5 129 0 M5_inFlightOf := ⟨ok5_inFlightOf, ow5_inFlightOf, fun y h ho => ⟨fun _ => (lv5_5_inFlightOf (own_cls h ho rfl)), fun z => (nomatch z), fun z => (nomatch z), fun z => (nomatch z), fun z => (nomatch z)⟩⟩
theorem ca5_132 : CaP 5 132 0 M5_copyItems := ⟨ok5_copyItems, ow5_copyItems, fun y h ho => ⟨fun _ => (lv5_5_copyItems (own_cls h ho rfl)), fun z => (nomatch z), fun z => (nomatch z), fun z => (nomatch z), fun z => (nomatch z)⟩⟩
theorem ca5_136 : CaP 5 136 1 M5_copyRow := ⟨ok5_copyRow, ow5_copyRow, fun y h ho => ⟨fun z => (nomatch z), fun _ => (lv5_5_copyRow (own_cls h ho rfl)), fun z => (nomatch z), fun z => (nomatch z), fun z => (nomatch z)⟩⟩
def ct5 : List (Nat × Nat × MT) := [(67, 0, M5_hasEnded), (71, 0, M5_setIn), (75, 0, M5_startAnew), (79, 0, M5_predecessors), (82, 1, M6_bitCount_0f7a4), (87, 1, M0_has), (93, 0, M5_dropEdge), (97, 0, M5_settleItem), (100, 0, M5_followsEdges), (103, 0, M5_stateByEdges), (106, 0, M5_makeReady), (109, 0, M5_hasFailed), (112, 0, M5_settle), (115, 0, M5_comeBack), (118, 0, M5_rankFor), (122, 0, M5_canBeReceived), (125, 0, M5_rankNow), (129, 0, M5_inFlightOf), (132, 0, M5_copyItems), (136, 1, M5_copyRow)]
theorem ct5_ok : ∀ q ∈ ct5, CaP 5 q.1 q.2.1 q.2.2 := by
  unfold ct5
  exact List.forall_mem_cons.mpr ⟨ca5_67, List.forall_mem_cons.mpr ⟨ca5_71, List.forall_mem_cons.mpr ⟨ca5_75, List.forall_mem_cons.mpr ⟨ca5_79, List.forall_mem_cons.mpr ⟨ca5_82, List.forall_mem_cons.mpr ⟨ca5_87, List.forall_mem_cons.mpr ⟨ca5_93, List.forall_mem_cons.mpr ⟨ca5_97, List.forall_mem_cons.mpr ⟨ca5_100, List.forall_mem_cons.mpr ⟨ca5_103, List.forall_mem_cons.mpr ⟨ca5_106, List.forall_mem_cons.mpr ⟨ca5_109, List.forall_mem_cons.mpr ⟨ca5_112, List.forall_mem_cons.mpr ⟨ca5_115, List.forall_mem_cons.mpr ⟨ca5_118, List.forall_mem_cons.mpr ⟨ca5_122, List.forall_mem_cons.mpr ⟨ca5_125, List.forall_mem_cons.mpr ⟨ca5_129, List.forall_mem_cons.mpr ⟨ca5_132, List.forall_mem_cons.mpr ⟨ca5_136, fun _ h => absurd h List.not_mem_nil⟩⟩⟩⟩⟩⟩⟩⟩⟩⟩⟩⟩⟩⟩⟩⟩⟩⟩⟩⟩
theorem ca6_17 : CaP 6 17 12 M5_init := ⟨ok5_init, ow5_init, fun y h ho => ⟨fun z => (nomatch z), fun z => (nomatch z), fun z => (nomatch z), fun z => (nomatch z), fun _ => (ln6_5_init (own_cls h ho rfl))⟩⟩
theorem ca6_29 : CaP 6 29 0 M5_removeItems := ⟨ok5_removeItems, ow5_removeItems, fun y h ho => ⟨fun _ => (lv6_5_removeItems (own_cls h ho rfl)), fun z => (nomatch z), fun z => (nomatch z), fun z => (nomatch z), fun z => (nomatch z)⟩⟩
theorem ca6_32 : CaP 6 32 0 M6_readItem := ⟨ok6_readItem, ow6_readItem, fun y h ho => ⟨fun _ => (lv6_6_readItem (own_cls h ho rfl)), fun z => (nomatch z), fun z => (nomatch z), fun z => (nomatch z), fun z => (nomatch z)⟩⟩
theorem ca6_36 : CaP 6 36 0 M5_isFull := ⟨ok5_isFull, ow5_isFull, fun y h ho => ⟨fun _ => (lv6_5_isFull (own_cls h ho rfl)), fun z => (nomatch z), fun z => (nomatch z), fun z => (nomatch z), fun z => (nomatch z)⟩⟩
theorem ca6_40 : CaP 6 40 0 M6_codeHere := ⟨ok6_codeHere, ow6_codeHere, fun y h ho => ⟨fun _ => (lv6_6_codeHere (own_cls h ho rfl)), fun z => (nomatch z), fun z => (nomatch z), fun z => (nomatch z), fun z => (nomatch z)⟩⟩
theorem ca6_43 : CaP 6 43 1 M6_isDigit := ⟨ok6_isDigit, ow6_isDigit, fun y h ho => ⟨fun z => (nomatch z), fun _ => (lv6_6_isDigit (own_cls h ho rfl)), fun z => (nomatch z), fun z => (nomatch z), fun z => (nomatch z)⟩⟩
theorem ca6_47 : CaP 6 47 0 M6_readNumber := ⟨ok6_readNumber, ow6_readNumber, fun y h ho => ⟨fun _ => (lv6_6_readNumber (own_cls h ho rfl)), fun z => (nomatch z), fun z => (nomatch z), fun z => (nomatch z), fun z => (nomatch z)⟩⟩
theorem ca6_50 : CaP 6 50 11 M8_isWithin := ⟨ok8_isWithin, ow8_isWithin, fun y h ho => ⟨fun z => (nomatch z), fun z => (nomatch z), fun z => (nomatch z), fun _ => (ln6_8_isWithin (own_cls h ho rfl)), fun z => (nomatch z)⟩⟩
theorem ca6_54 : CaP 6 54 0 M5_append := ⟨ok5_append, ow5_append, fun y h ho => ⟨fun _ => (lv6_5_append (own_cls h ho rfl)), fun z => (nomatch z), fun z => (nomatch z), fun z => (nomatch z), fun z => (nomatch z)⟩⟩
theorem ca6_58 : CaP 6 58 0 M6_readEdges := ⟨ok6_readEdges, ow6_readEdges, fun y h ho => ⟨fun _ => (lv6_6_readEdges (own_cls h ho rfl)), fun z => (nomatch z), fun z => (nomatch z), fun z => (nomatch z), fun z => (nomatch z)⟩⟩
theorem ca6_62 : CaP 6 62 0 M5_predecessors := ⟨ok5_predecessors, ow5_predecessors, fun y h ho => ⟨fun _ => (lv6_5_predecessors (own_cls h ho rfl)), fun z => (nomatch z), fun z => (nomatch z), fun z => (nomatch z), fun z => (nomatch z)⟩⟩
theorem ca6_65 : CaP 6 65 1 M0_has := ⟨ok0_has, ow0_has, fun y h ho => ⟨fun z => (nomatch z), fun _ => (lv6_0_has (own_cls h ho rfl)), fun z => (nomatch z), fun z => (nomatch z), fun z => (nomatch z)⟩⟩
theorem ca6_71 : CaP 6 71 0 M5_putEdge := ⟨ok5_putEdge, ow5_putEdge, fun y h ho => ⟨fun _ => (lv6_5_putEdge (own_cls h ho rfl)), fun z => (nomatch z), fun z => (nomatch z), fun z => (nomatch z), fun z => (nomatch z)⟩⟩
def ct6 : List (Nat × Nat × MT) := [(17, 12, M5_init), (29, 0, M5_removeItems), (32, 0, M6_readItem), (36, 0, M5_isFull), (40, 0, M6_codeHere), (43, 1, M6_isDigit), (47, 0, M6_readNumber), (50, 11, M8_isWithin), (54, 0, M5_append), (58, 0, M6_readEdges), (62, 0, M5_predecessors), (65, 1, M0_has), (71, 0, M5_putEdge)]
theorem ct6_ok : ∀ q ∈ ct6, CaP 6 q.1 q.2.1 q.2.2 := by
  unfold ct6
  exact List.forall_mem_cons.mpr ⟨ca6_17, List.forall_mem_cons.mpr ⟨ca6_29, List.forall_mem_cons.mpr ⟨ca6_32, List.forall_mem_cons.mpr ⟨ca6_36, List.forall_mem_cons.mpr ⟨ca6_40, List.forall_mem_cons.mpr ⟨ca6_43, List.forall_mem_cons.mpr ⟨ca6_47, List.forall_mem_cons.mpr ⟨ca6_50, List.forall_mem_cons.mpr ⟨ca6_54, List.forall_mem_cons.mpr ⟨ca6_58, List.forall_mem_cons.mpr ⟨ca6_62, List.forall_mem_cons.mpr ⟨ca6_65, List.forall_mem_cons.mpr ⟨ca6_71, fun _ h => absurd h List.not_mem_nil⟩⟩⟩⟩⟩⟩⟩⟩⟩⟩⟩⟩⟩
theorem ca7_22 : CaP 7 22 0 M7_drawRings := ⟨ok7_drawRings, ow7_drawRings, fun y h ho => ⟨fun _ => (lv7_7_drawRings (own_cls h ho rfl)), fun z => (nomatch z), fun z => (nomatch z), fun z => (nomatch z), fun z => (nomatch z)⟩⟩
theorem ca7_26 : CaP 7 26 1 M7_lowestSuccessor := ⟨ok7_lowestSuccessor, ow7_lowestSuccessor, fun y h ho => ⟨fun z => (nomatch z), fun _ => (lv7_7_lowestSuccessor (own_cls h ho rfl)), fun z => (nomatch z), fun z => (nomatch z), fun z => (nomatch z)⟩⟩
theorem ca7_29 : CaP 7 29 1 M0_has := ⟨ok0_has, ow0_has, fun y h ho => ⟨fun z => (nomatch z), fun _ => (lv7_0_has (own_cls h ho rfl)), fun z => (nomatch z), fun z => (nomatch z), fun z => (nomatch z)⟩⟩
theorem ca7_35 : CaP 7 35 1 M7_predecessorsOfAll := ⟨ok7_predecessorsOfAll, ow7_predecessorsOfAll, fun y h ho => ⟨fun z => (nomatch z), fun _ => (lv7_7_predecessorsOfAll (own_cls h ho rfl)), fun z => (nomatch z), fun z => (nomatch z), fun z => (nomatch z)⟩⟩
theorem ca7_44 : CaP 7 44 0 M5_predecessors := ⟨ok5_predecessors, ow5_predecessors, fun y h ho => ⟨fun _ => (lv7_5_predecessors (own_cls h ho rfl)), fun z => (nomatch z), fun z => (nomatch z), fun z => (nomatch z), fun z => (nomatch z)⟩⟩
def ct7 : List (Nat × Nat × MT) := [(22, 0, M7_drawRings), (26, 1, M7_lowestSuccessor), (29, 1, M0_has), (35, 1, M7_predecessorsOfAll), (44, 0, M5_predecessors)]
theorem ct7_ok : ∀ q ∈ ct7, CaP 7 q.1 q.2.1 q.2.2 := by
  unfold ct7
  exact List.forall_mem_cons.mpr ⟨ca7_22, List.forall_mem_cons.mpr ⟨ca7_26, List.forall_mem_cons.mpr ⟨ca7_29, List.forall_mem_cons.mpr ⟨ca7_35, List.forall_mem_cons.mpr ⟨ca7_44, fun _ h => absurd h List.not_mem_nil⟩⟩⟩⟩⟩
theorem ca8_9 : CaP 8 9 12 M5_init := ⟨ok5_init, ow5_init, fun y h ho => ⟨fun z => (nomatch z), fun z => (nomatch z), fun z => (nomatch z), fun z => (nomatch z), fun _ => (ln8_5_init (own_cls h ho rfl))⟩⟩
theorem ca8_22 : CaP 8 22 2 M3_init := ⟨ok3_init, ow3_init, fun y h ho => ⟨fun z => (nomatch z), fun z => (nomatch z), fun _ => (lv8_3_init (own_cls h ho rfl)), fun z => (nomatch z), fun z => (nomatch z)⟩⟩
theorem ca8_31 : CaP 8 31 12 M7_init := ⟨ok7_init, ow7_init, fun y h ho => ⟨fun z => (nomatch z), fun z => (nomatch z), fun z => (nomatch z), fun z => (nomatch z), fun _ => (ln8_7_init (own_cls h ho rfl))⟩⟩
theorem ca8_38 : CaP 8 38 12 M4_init := ⟨ok4_init, ow4_init, fun y h ho => ⟨fun z => (nomatch z), fun z => (nomatch z), fun z => (nomatch z), fun z => (nomatch z), fun _ => (ln8_4_init (own_cls h ho rfl))⟩⟩
theorem ca8_45 : CaP 8 45 12 M1_init := ⟨ok1_init, ow1_init, fun y h ho => ⟨fun z => (nomatch z), fun z => (nomatch z), fun z => (nomatch z), fun z => (nomatch z), fun _ => (ln8_1_init (own_cls h ho rfl))⟩⟩
theorem ca8_52 : CaP 8 52 12 M2_init := ⟨ok2_init, ow2_init, fun y h ho => ⟨fun z => (nomatch z), fun z => (nomatch z), fun z => (nomatch z), fun z => (nomatch z), fun _ => (ln8_2_init (own_cls h ho rfl))⟩⟩
theorem ca8_59 : CaP 8 59 12 M6_init := ⟨ok6_init, ow6_init, fun y h ho => ⟨fun z => (nomatch z), fun z => (nomatch z), fun z => (nomatch z), fun z => (nomatch z), fun _ => (ln8_6_init (own_cls h ho rfl))⟩⟩
theorem ca8_64 : CaP 8 64 1 M8_isWithin := ⟨ok8_isWithin, ow8_isWithin, fun y h ho => ⟨fun z => (nomatch z), fun _ => (lv8_8_isWithin (own_cls h ho rfl)), fun z => (nomatch z), fun z => (nomatch z), fun z => (nomatch z)⟩⟩
theorem ca8_68 : CaP 8 68 0 M5_isFull := ⟨ok5_isFull, ow5_isFull, fun y h ho => ⟨fun _ => (lv8_5_isFull (own_cls h ho rfl)), fun z => (nomatch z), fun z => (nomatch z), fun z => (nomatch z), fun z => (nomatch z)⟩⟩
theorem ca8_72 : CaP 8 72 0 M5_append := ⟨ok5_append, ow5_append, fun y h ho => ⟨fun _ => (lv8_5_append (own_cls h ho rfl)), fun z => (nomatch z), fun z => (nomatch z), fun z => (nomatch z), fun z => (nomatch z)⟩⟩
theorem ca8_76 : CaP 8 76 0 M5_makeReady := ⟨ok5_makeReady, ow5_makeReady, fun y h ho => ⟨fun _ => (lv8_5_makeReady (own_cls h ho rfl)), fun z => (nomatch z), fun z => (nomatch z), fun z => (nomatch z), fun z => (nomatch z)⟩⟩
theorem ca8_80 : CaP 8 80 0 M5_holds := ⟨ok5_holds, ow5_holds, fun y h ho => ⟨fun _ => (lv8_5_holds (own_cls h ho rfl)), fun z => (nomatch z), fun z => (nomatch z), fun z => (nomatch z), fun z => (nomatch z)⟩⟩
theorem ca8_84 : CaP 8 84 0 M3_beforeSets := ⟨ok3_beforeSets, ow3_beforeSets, fun y h ho => ⟨fun _ => (lv8_3_beforeSets (own_cls h ho rfl)), fun z => (nomatch z), fun z => (nomatch z), fun z => (nomatch z), fun z => (nomatch z)⟩⟩
theorem ca8_88 : CaP 8 88 1 M0_has := ⟨ok0_has, ow0_has, fun y h ho => ⟨fun z => (nomatch z), fun _ => (lv8_0_has (own_cls h ho rfl)), fun z => (nomatch z), fun z => (nomatch z), fun z => (nomatch z)⟩⟩
theorem ca8_94 : CaP 8 94 0 M7_remember := ⟨ok7_remember, ow7_remember, fun y h ho => ⟨fun _ => (lv8_7_remember (own_cls h ho rfl)), fun z => (nomatch z), fun z => (nomatch z), fun z => (nomatch z), fun z => (nomatch z)⟩⟩
theorem ca8_98 : CaP 8 98 0 M5_followsEdges := ⟨ok5_followsEdges, ow5_followsEdges, fun y h ho => ⟨fun _ => (lv8_5_followsEdges (own_cls h ho rfl)), fun z => (nomatch z), fun z => (nomatch z), fun z => (nomatch z), fun z => (nomatch z)⟩⟩
theorem ca8_101 : CaP 8 101 0 M5_putEdge := ⟨ok5_putEdge, ow5_putEdge, fun y h ho => ⟨fun _ => (lv8_5_putEdge (own_cls h ho rfl)), fun z => (nomatch z), fun z => (nomatch z), fun z => (nomatch z), fun z => (nomatch z)⟩⟩
theorem ca8_105 : CaP 8 105 0 M5_settle := ⟨ok5_settle, ow5_settle, fun y h ho => ⟨fun _ => (lv8_5_settle (own_cls h ho rfl)), fun z => (nomatch z), fun z => (nomatch z), fun z => (nomatch z), fun z => (nomatch z)⟩⟩
theorem ca8_108 : CaP 8 108 0 M5_edgeCount := ⟨ok5_edgeCount, ow5_edgeCount, fun y h ho => ⟨fun _ => (lv8_5_edgeCount (own_cls h ho rfl)), fun z => (nomatch z), fun z => (nomatch z), fun z => (nomatch z), fun z => (nomatch z)⟩⟩
theorem ca8_120 : CaP 8 120 0 M5_predecessors := ⟨ok5_predecessors, ow5_predecessors, fun y h ho => ⟨fun _ => (lv8_5_predecessors (own_cls h ho rfl)), fun z => (nomatch z), fun z => (nomatch z), fun z => (nomatch z), fun z => (nomatch z)⟩⟩
theorem ca8_124 : CaP 8 124 0 M5_dropEdge := ⟨ok5_dropEdge, ow5_dropEdge, fun y h ho => ⟨fun _ => (lv8_5_dropEdge (own_cls h ho rfl)), fun z => (nomatch z), fun z => (nomatch z), fun z => (nomatch z), fun z => (nomatch z)⟩⟩
theorem ca8_127 : CaP 8 127 0 M5_hasEnded := ⟨ok5_hasEnded, ow5_hasEnded, fun y h ho => ⟨fun _ => (lv8_5_hasEnded (own_cls h ho rfl)), fun z => (nomatch z), fun z => (nomatch z), fun z => (nomatch z), fun z => (nomatch z)⟩⟩
theorem ca8_142 : CaP 8 142 0 M5_removeItems := ⟨ok5_removeItems, ow5_removeItems, fun y h ho => ⟨fun _ => (lv8_5_removeItems (own_cls h ho rfl)), fun z => (nomatch z), fun z => (nomatch z), fun z => (nomatch z), fun z => (nomatch z)⟩⟩
theorem ca8_145 : CaP 8 145 0 M7_forget := ⟨ok7_forget, ow7_forget, fun y h ho => ⟨fun _ => (lv8_7_forget (own_cls h ho rfl)), fun z => (nomatch z), fun z => (nomatch z), fun z => (nomatch z), fun z => (nomatch z)⟩⟩
theorem ca8_148 : CaP 8 148 0 M3_heights := ⟨ok3_heights, ow3_heights, fun y h ho => ⟨fun _ => (lv8_3_heights (own_cls h ho rfl)), fun z => (nomatch z), fun z => (nomatch z), fun z => (nomatch z), fun z => (nomatch z)⟩⟩
theorem ca8_151 : CaP 8 151 0 M5_nextToReceive := ⟨ok5_nextToReceive, ow5_nextToReceive, fun y h ho => ⟨fun _ => (lv8_5_nextToReceive (own_cls h ho rfl)), fun z => (nomatch z), fun z => (nomatch z), fun z => (nomatch z), fun z => (nomatch z)⟩⟩
theorem ca8_155 : CaP 8 155 0 M5_takeOut := ⟨ok5_takeOut, ow5_takeOut, fun y h ho => ⟨fun _ => (lv8_5_takeOut (own_cls h ho rfl)), fun z => (nomatch z), fun z => (nomatch z), fun z => (nomatch z), fun z => (nomatch z)⟩⟩
theorem ca8_161 : CaP 8 161 0 M5_isValid := ⟨ok5_isValid, ow5_isValid, fun y h ho => ⟨fun _ => (lv8_5_isValid (own_cls h ho rfl)), fun z => (nomatch z), fun z => (nomatch z), fun z => (nomatch z), fun z => (nomatch z)⟩⟩
theorem ca8_164 : CaP 8 164 0 M5_endAs := ⟨ok5_endAs, ow5_endAs, fun y h ho => ⟨fun _ => (lv8_5_endAs (own_cls h ho rfl)), fun z => (nomatch z), fun z => (nomatch z), fun z => (nomatch z), fun z => (nomatch z)⟩⟩
theorem ca8_171 : CaP 8 171 0 M5_comeBack := ⟨ok5_comeBack, ow5_comeBack, fun y h ho => ⟨fun _ => (lv8_5_comeBack (own_cls h ho rfl)), fun z => (nomatch z), fun z => (nomatch z), fun z => (nomatch z), fun z => (nomatch z)⟩⟩
theorem ca8_183 : CaP 8 183 0 M5_hasFailed := ⟨ok5_hasFailed, ow5_hasFailed, fun y h ho => ⟨fun _ => (lv8_5_hasFailed (own_cls h ho rfl)), fun z => (nomatch z), fun z => (nomatch z), fun z => (nomatch z), fun z => (nomatch z)⟩⟩
theorem ca8_186 : CaP 8 186 0 M5_startAnew := ⟨ok5_startAnew, ow5_startAnew, fun y h ho => ⟨fun _ => (lv8_5_startAnew (own_cls h ho rfl)), fun z => (nomatch z), fun z => (nomatch z), fun z => (nomatch z), fun z => (nomatch z)⟩⟩
theorem ca8_190 : CaP 8 190 0 M5_passTick := ⟨ok5_passTick, ow5_passTick, fun y h ho => ⟨fun _ => (lv8_5_passTick (own_cls h ho rfl)), fun z => (nomatch z), fun z => (nomatch z), fun z => (nomatch z), fun z => (nomatch z)⟩⟩
theorem ca8_193 : CaP 8 193 0 M5_setIn := ⟨ok5_setIn, ow5_setIn, fun y h ho => ⟨fun _ => (lv8_5_setIn (own_cls h ho rfl)), fun z => (nomatch z), fun z => (nomatch z), fun z => (nomatch z), fun z => (nomatch z)⟩⟩
theorem ca8_211 : CaP 8 211 0 M5_edgeKind := ⟨ok5_edgeKind, ow5_edgeKind, fun y h ho => ⟨fun _ => (lv8_5_edgeKind (own_cls h ho rfl)), fun z => (nomatch z), fun z => (nomatch z), fun z => (nomatch z), fun z => (nomatch z)⟩⟩
theorem ca8_215 : CaP 8 215 0 M5_rankNow := ⟨ok5_rankNow, ow5_rankNow, fun y h ho => ⟨fun _ => (lv8_5_rankNow (own_cls h ho rfl)), fun z => (nomatch z), fun z => (nomatch z), fun z => (nomatch z), fun z => (nomatch z)⟩⟩
theorem ca8_218 : CaP 8 218 0 M5_doomedBy := ⟨ok5_doomedBy, ow5_doomedBy, fun y h ho => ⟨fun _ => (lv8_5_doomedBy (own_cls h ho rfl)), fun z => (nomatch z), fun z => (nomatch z), fun z => (nomatch z), fun z => (nomatch z)⟩⟩
theorem ca8_221 : CaP 8 221 0 M3_hasDetour := ⟨ok3_hasDetour, ow3_hasDetour, fun y h ho => ⟨fun _ => (lv8_3_hasDetour (own_cls h ho rfl)), fun z => (nomatch z), fun z => (nomatch z), fun z => (nomatch z), fun z => (nomatch z)⟩⟩
theorem ca8_224 : CaP 8 224 0 M4_make := ⟨ok4_make, ow4_make, fun y h ho => ⟨fun _ => (lv8_4_make (own_cls h ho rfl)), fun z => (nomatch z), fun z => (nomatch z), fun z => (nomatch z), fun z => (nomatch z)⟩⟩
theorem ca8_237 : CaP 8 237 0 M3_leads := ⟨ok3_leads, ow3_leads, fun y h ho => ⟨fun _ => (lv8_3_leads (own_cls h ho rfl)), fun z => (nomatch z), fun z => (nomatch z), fun z => (nomatch z), fun z => (nomatch z)⟩⟩
theorem ca8_240 : CaP 8 240 0 M5_unendedSet := ⟨ok5_unendedSet, ow5_unendedSet, fun y h ho => ⟨fun _ => (lv8_5_unendedSet (own_cls h ho rfl)), fun z => (nomatch z), fun z => (nomatch z), fun z => (nomatch z), fun z => (nomatch z)⟩⟩
theorem ca8_243 : CaP 8 243 1 M6_bitCount_0f7a4 := ⟨ok6_bitCount_0f7a4, ow6_bitCount_0f7a4, fun y h ho => ⟨fun z => (nomatch z), fun _ => (lv8_6_bitCount_0f7a4 (own_cls h ho rfl)), fun z => (nomatch z), fun z => (nomatch z), fun z => (nomatch z)⟩⟩
theorem ca8_248 : CaP 8 248 0 M1_countPairs := ⟨ok1_countPairs, ow1_countPairs, fun y h ho => ⟨fun _ => (lv8_1_countPairs (own_cls h ho rfl)), fun z => (nomatch z), fun z => (nomatch z), fun z => (nomatch z), fun z => (nomatch z)⟩⟩
theorem ca8_254 : CaP 8 254 0 M2_countFor := ⟨ok2_countFor, ow2_countFor, fun y h ho => ⟨fun _ => (lv8_2_countFor (own_cls h ho rfl)), fun z => (nomatch z), fun z => (nomatch z), fun z => (nomatch z), fun z => (nomatch z)⟩⟩
theorem ca8_259 : CaP 8 259 0 M6_append := ⟨ok6_append, ow6_append, fun y h ho => ⟨fun _ => (lv8_6_append (own_cls h ho rfl)), fun z => (nomatch z), fun z => (nomatch z), fun z => (nomatch z), fun z => (nomatch z)⟩⟩
theorem ca8_261 : CaP 8 261 0 M6_read := ⟨ok6_read, ow6_read, fun y h ho => ⟨fun _ => (lv8_6_read (own_cls h ho rfl)), fun z => (nomatch z), fun z => (nomatch z), fun z => (nomatch z), fun z => (nomatch z)⟩⟩
theorem ca8_267 : CaP 8 267 0 M5_copyItems := ⟨ok5_copyItems, ow5_copyItems, fun y h ho => ⟨fun _ => (lv8_5_copyItems (own_cls h ho rfl)), fun z => (nomatch z), fun z => (nomatch z), fun z => (nomatch z), fun z => (nomatch z)⟩⟩
theorem ca8_270 : CaP 8 270 0 M5_copyAll := ⟨ok5_copyAll, ow5_copyAll, fun y h ho => ⟨fun _ => (lv8_5_copyAll (own_cls h ho rfl)), fun z => (nomatch z), fun z => (nomatch z), fun z => (nomatch z), fun z => (nomatch z)⟩⟩
def ct8 : List (Nat × Nat × MT) := [(9, 12, M5_init), (22, 2, M3_init), (31, 12, M7_init), (38, 12, M4_init), (45, 12, M1_init), (52, 12, M2_init), (59, 12, M6_init), (64, 1, M8_isWithin), (68, 0, M5_isFull), (72, 0, M5_append), (76, 0, M5_makeReady), (80, 0, M5_holds), (84, 0, M3_beforeSets), (88, 1, M0_has), (94, 0, M7_remember), (98, 0, M5_followsEdges), (101, 0, M5_putEdge), (105, 0, M5_settle), (108, 0, M5_edgeCount), (120, 0, M5_predecessors), (124, 0, M5_dropEdge), (127, 0, M5_hasEnded), (142, 0, M5_removeItems), (145, 0, M7_forget), (148, 0, M3_heights), (151, 0, M5_nextToReceive), (155, 0, M5_takeOut), (161, 0, M5_isValid), (164, 0, M5_endAs), (171, 0, M5_comeBack), (183, 0, M5_hasFailed), (186, 0, M5_startAnew), (190, 0, M5_passTick), (193, 0, M5_setIn), (211, 0, M5_edgeKind), (215, 0, M5_rankNow), (218, 0, M5_doomedBy), (221, 0, M3_hasDetour), (224, 0, M4_make), (237, 0, M3_leads), (240, 0, M5_unendedSet), (243, 1, M6_bitCount_0f7a4), (248, 0, M1_countPairs), (254, 0, M2_countFor), (259, 0, M6_append), (261, 0, M6_read), (267, 0, M5_copyItems), (270, 0, M5_copyAll)]
theorem ct8_ok : ∀ q ∈ ct8, CaP 8 q.1 q.2.1 q.2.2 := by
  unfold ct8
  exact List.forall_mem_cons.mpr ⟨ca8_9, List.forall_mem_cons.mpr ⟨ca8_22, List.forall_mem_cons.mpr ⟨ca8_31, List.forall_mem_cons.mpr ⟨ca8_38, List.forall_mem_cons.mpr ⟨ca8_45, List.forall_mem_cons.mpr ⟨ca8_52, List.forall_mem_cons.mpr ⟨ca8_59, List.forall_mem_cons.mpr ⟨ca8_64, List.forall_mem_cons.mpr ⟨ca8_68, List.forall_mem_cons.mpr ⟨ca8_72, List.forall_mem_cons.mpr ⟨ca8_76, List.forall_mem_cons.mpr ⟨ca8_80, List.forall_mem_cons.mpr ⟨ca8_84, List.forall_mem_cons.mpr ⟨ca8_88, List.forall_mem_cons.mpr ⟨ca8_94, List.forall_mem_cons.mpr ⟨ca8_98, List.forall_mem_cons.mpr ⟨ca8_101, List.forall_mem_cons.mpr ⟨ca8_105, List.forall_mem_cons.mpr ⟨ca8_108, List.forall_mem_cons.mpr ⟨ca8_120, List.forall_mem_cons.mpr ⟨ca8_124, List.forall_mem_cons.mpr ⟨ca8_127, List.forall_mem_cons.mpr ⟨ca8_142, List.forall_mem_cons.mpr ⟨ca8_145, List.forall_mem_cons.mpr ⟨ca8_148, List.forall_mem_cons.mpr ⟨ca8_151, List.forall_mem_cons.mpr ⟨ca8_155, List.forall_mem_cons.mpr ⟨ca8_161, List.forall_mem_cons.mpr ⟨ca8_164, List.forall_mem_cons.mpr ⟨ca8_171, List.forall_mem_cons.mpr ⟨ca8_183, List.forall_mem_cons.mpr ⟨ca8_186, List.forall_mem_cons.mpr ⟨ca8_190, List.forall_mem_cons.mpr ⟨ca8_193, List.forall_mem_cons.mpr ⟨ca8_211, List.forall_mem_cons.mpr ⟨ca8_215, List.forall_mem_cons.mpr ⟨ca8_218, List.forall_mem_cons.mpr ⟨ca8_221, List.forall_mem_cons.mpr ⟨ca8_224, List.forall_mem_cons.mpr ⟨ca8_237, List.forall_mem_cons.mpr ⟨ca8_240, List.forall_mem_cons.mpr ⟨ca8_243, List.forall_mem_cons.mpr ⟨ca8_248, List.forall_mem_cons.mpr ⟨ca8_254, List.forall_mem_cons.mpr ⟨ca8_259, List.forall_mem_cons.mpr ⟨ca8_261, List.forall_mem_cons.mpr ⟨ca8_267, List.forall_mem_cons.mpr ⟨ca8_270, fun _ h => absurd h List.not_mem_nil⟩⟩⟩⟩⟩⟩⟩⟩⟩⟩⟩⟩⟩⟩⟩⟩⟩⟩⟩⟩⟩⟩⟩⟩⟩⟩⟩⟩⟩⟩⟩⟩⟩⟩⟩⟩⟩⟩⟩⟩⟩⟩⟩⟩⟩⟩⟩⟩
theorem ca9_65 : CaP 9 65 1 M9_isIn := ⟨ok9_isIn, ow9_isIn, fun y h ho => ⟨fun z => (nomatch z), fun _ => (lv9_9_isIn (own_cls h ho rfl)), fun z => (nomatch z), fun z => (nomatch z), fun z => (nomatch z)⟩⟩
theorem ca9_69 : CaP 9 69 0 M9_of := ⟨ok9_of, ow9_of, fun y h ho => ⟨fun _ => (lv9_9_of (own_cls h ho rfl)), fun z => (nomatch z), fun z => (nomatch z), fun z => (nomatch z), fun z => (nomatch z)⟩⟩
theorem ca9_73 : CaP 9 73 0 M9_set := ⟨ok9_set, ow9_set, fun y h ho => ⟨fun _ => (lv9_9_set (own_cls h ho rfl)), fun z => (nomatch z), fun z => (nomatch z), fun z => (nomatch z), fun z => (nomatch z)⟩⟩
theorem ca9_77 : CaP 9 77 0 M9_kindOf := ⟨ok9_kindOf, ow9_kindOf, fun y h ho => ⟨fun _ => (lv9_9_kindOf (own_cls h ho rfl)), fun z => (nomatch z), fun z => (nomatch z), fun z => (nomatch z), fun z => (nomatch z)⟩⟩
theorem ca9_80 : CaP 9 80 0 M9_hasEnded := ⟨ok9_hasEnded, ow9_hasEnded, fun y h ho => ⟨fun _ => (lv9_9_hasEnded (own_cls h ho rfl)), fun z => (nomatch z), fun z => (nomatch z), fun z => (nomatch z), fun z => (nomatch z)⟩⟩
theorem ca9_91 : CaP 9 91 0 M9_due := ⟨ok9_due, ow9_due, fun y h ho => ⟨fun _ => (lv9_9_due (own_cls h ho rfl)), fun z => (nomatch z), fun z => (nomatch z), fun z => (nomatch z), fun z => (nomatch z)⟩⟩
theorem ca9_95 : CaP 9 95 0 M9_becomesReady := ⟨ok9_becomesReady, ow9_becomesReady, fun y h ho => ⟨fun _ => (lv9_9_becomesReady (own_cls h ho rfl)), fun z => (nomatch z), fun z => (nomatch z), fun z => (nomatch z), fun z => (nomatch z)⟩⟩
theorem ca9_99 : CaP 9 99 0 M9_append := ⟨ok9_append, ow9_append, fun y h ho => ⟨fun _ => (lv9_9_append (own_cls h ho rfl)), fun z => (nomatch z), fun z => (nomatch z), fun z => (nomatch z), fun z => (nomatch z)⟩⟩
theorem ca9_103 : CaP 9 103 0 M9_settle := ⟨ok9_settle, ow9_settle, fun y h ho => ⟨fun _ => (lv9_9_settle (own_cls h ho rfl)), fun z => (nomatch z), fun z => (nomatch z), fun z => (nomatch z), fun z => (nomatch z)⟩⟩
theorem ca9_109 : CaP 9 109 0 M9_isItem := ⟨ok9_isItem, ow9_isItem, fun y h ho => ⟨fun _ => (lv9_9_isItem (own_cls h ho rfl)), fun z => (nomatch z), fun z => (nomatch z), fun z => (nomatch z), fun z => (nomatch z)⟩⟩
theorem ca9_112 : CaP 9 112 0 M9_measureTo := ⟨ok9_measureTo, ow9_measureTo, fun y h ho => ⟨fun _ => (lv9_9_measureTo (own_cls h ho rfl)), fun z => (nomatch z), fun z => (nomatch z), fun z => (nomatch z), fun z => (nomatch z)⟩⟩
theorem ca9_116 : CaP 9 116 0 M9_keepPath := ⟨ok9_keepPath, ow9_keepPath, fun y h ho => ⟨fun _ => (lv9_9_keepPath (own_cls h ho rfl)), fun z => (nomatch z), fun z => (nomatch z), fun z => (nomatch z), fun z => (nomatch z)⟩⟩
theorem ca9_119 : CaP 9 119 0 M9_edges := ⟨ok9_edges, ow9_edges, fun y h ho => ⟨fun _ => (lv9_9_edges (own_cls h ho rfl)), fun z => (nomatch z), fun z => (nomatch z), fun z => (nomatch z), fun z => (nomatch z)⟩⟩
theorem ca9_123 : CaP 9 123 0 M9_ownWork := ⟨ok9_ownWork, ow9_ownWork, fun y h ho => ⟨fun _ => (lv9_9_ownWork (own_cls h ho rfl)), fun z => (nomatch z), fun z => (nomatch z), fun z => (nomatch z), fun z => (nomatch z)⟩⟩
theorem ca9_126 : CaP 9 126 0 M9_measure := ⟨ok9_measure, ow9_measure, fun y h ho => ⟨fun _ => (lv9_9_measure (own_cls h ho rfl)), fun z => (nomatch z), fun z => (nomatch z), fun z => (nomatch z), fun z => (nomatch z)⟩⟩
theorem ca9_129 : CaP 9 129 0 M9_canReceive := ⟨ok9_canReceive, ow9_canReceive, fun y h ho => ⟨fun _ => (lv9_9_canReceive (own_cls h ho rfl)), fun z => (nomatch z), fun z => (nomatch z), fun z => (nomatch z), fun z => (nomatch z)⟩⟩
theorem ca9_132 : CaP 9 132 0 M9_rankOf := ⟨ok9_rankOf, ow9_rankOf, fun y h ho => ⟨fun _ => (lv9_9_rankOf (own_cls h ho rfl)), fun z => (nomatch z), fun z => (nomatch z), fun z => (nomatch z), fun z => (nomatch z)⟩⟩
theorem ca9_135 : CaP 9 135 0 M9_isValid := ⟨ok9_isValid, ow9_isValid, fun y h ho => ⟨fun _ => (lv9_9_isValid (own_cls h ho rfl)), fun z => (nomatch z), fun z => (nomatch z), fun z => (nomatch z), fun z => (nomatch z)⟩⟩
theorem ca9_139 : CaP 9 139 0 M9_comeBack := ⟨ok9_comeBack, ow9_comeBack, fun y h ho => ⟨fun _ => (lv9_9_comeBack (own_cls h ho rfl)), fun z => (nomatch z), fun z => (nomatch z), fun z => (nomatch z), fun z => (nomatch z)⟩⟩
theorem ca9_142 : CaP 9 142 0 M9_layAhead := ⟨ok9_layAhead, ow9_layAhead, fun y h ho => ⟨fun _ => (lv9_9_layAhead (own_cls h ho rfl)), fun z => (nomatch z), fun z => (nomatch z), fun z => (nomatch z), fun z => (nomatch z)⟩⟩
theorem ca9_145 : CaP 9 145 0 M9_possibleAt := ⟨ok9_possibleAt, ow9_possibleAt, fun y h ho => ⟨fun _ => (lv9_9_possibleAt (own_cls h ho rfl)), fun z => (nomatch z), fun z => (nomatch z), fun z => (nomatch z), fun z => (nomatch z)⟩⟩
theorem ca9_148 : CaP 9 148 0 M9_planRank := ⟨ok9_planRank, ow9_planRank, fun y h ho => ⟨fun _ => (lv9_9_planRank (own_cls h ho rfl)), fun z => (nomatch z), fun z => (nomatch z), fun z => (nomatch z), fun z => (nomatch z)⟩⟩
theorem ca9_152 : CaP 9 152 0 M9_planned := ⟨ok9_planned, ow9_planned, fun y h ho => ⟨fun _ => (lv9_9_planned (own_cls h ho rfl)), fun z => (nomatch z), fun z => (nomatch z), fun z => (nomatch z), fun z => (nomatch z)⟩⟩
theorem ca9_155 : CaP 9 155 0 M9_changePartners := ⟨ok9_changePartners, ow9_changePartners, fun y h ho => ⟨fun _ => (lv9_9_changePartners (own_cls h ho rfl)), fun z => (nomatch z), fun z => (nomatch z), fun z => (nomatch z), fun z => (nomatch z)⟩⟩
theorem ca9_158 : CaP 9 158 0 M9_isMatched := ⟨ok9_isMatched, ow9_isMatched, fun y h ho => ⟨fun _ => (lv9_9_isMatched (own_cls h ho rfl)), fun z => (nomatch z), fun z => (nomatch z), fun z => (nomatch z), fun z => (nomatch z)⟩⟩
theorem ca9_163 : CaP 9 163 0 M9_isLast := ⟨ok9_isLast, ow9_isLast, fun y h ho => ⟨fun _ => (lv9_9_isLast (own_cls h ho rfl)), fun z => (nomatch z), fun z => (nomatch z), fun z => (nomatch z), fun z => (nomatch z)⟩⟩
theorem ca9_175 : CaP 9 175 0 M9_isDigit := ⟨ok9_isDigit, ow9_isDigit, fun y h ho => ⟨fun _ => (lv9_9_isDigit (own_cls h ho rfl)), fun z => (nomatch z), fun z => (nomatch z), fun z => (nomatch z), fun z => (nomatch z)⟩⟩
theorem ca9_179 : CaP 9 179 0 M9_fails := ⟨ok9_fails, ow9_fails, fun y h ho => ⟨fun _ => (lv9_9_fails (own_cls h ho rfl)), fun z => (nomatch z), fun z => (nomatch z), fun z => (nomatch z), fun z => (nomatch z)⟩⟩
theorem ca9_185 : CaP 9 185 0 M9_number := ⟨ok9_number, ow9_number, fun y h ho => ⟨fun _ => (lv9_9_number (own_cls h ho rfl)), fun z => (nomatch z), fun z => (nomatch z), fun z => (nomatch z), fun z => (nomatch z)⟩⟩
theorem ca9_188 : CaP 9 188 0 M9_readItem := ⟨ok9_readItem, ow9_readItem, fun y h ho => ⟨fun _ => (lv9_9_readItem (own_cls h ho rfl)), fun z => (nomatch z), fun z => (nomatch z), fun z => (nomatch z), fun z => (nomatch z)⟩⟩
theorem ca9_191 : CaP 9 191 0 M9_fault := ⟨ok9_fault, ow9_fault, fun y h ho => ⟨fun _ => (lv9_9_fault (own_cls h ho rfl)), fun z => (nomatch z), fun z => (nomatch z), fun z => (nomatch z), fun z => (nomatch z)⟩⟩
def ct9 : List (Nat × Nat × MT) := [(65, 1, M9_isIn), (69, 0, M9_of), (73, 0, M9_set), (77, 0, M9_kindOf), (80, 0, M9_hasEnded), (91, 0, M9_due), (95, 0, M9_becomesReady), (99, 0, M9_append), (103, 0, M9_settle), (109, 0, M9_isItem), (112, 0, M9_measureTo), (116, 0, M9_keepPath), (119, 0, M9_edges), (123, 0, M9_ownWork), (126, 0, M9_measure), (129, 0, M9_canReceive), (132, 0, M9_rankOf), (135, 0, M9_isValid), (139, 0, M9_comeBack), (142, 0, M9_layAhead), (145, 0, M9_possibleAt), (148, 0, M9_planRank), (152, 0, M9_planned), (155, 0, M9_changePartners), (158, 0, M9_isMatched), (163, 0, M9_isLast), (175, 0, M9_isDigit), (179, 0, M9_fails), (185, 0, M9_number), (188, 0, M9_readItem), (191, 0, M9_fault)]
theorem ct9_ok : ∀ q ∈ ct9, CaP 9 q.1 q.2.1 q.2.2 := by
  unfold ct9
  exact List.forall_mem_cons.mpr ⟨ca9_65, List.forall_mem_cons.mpr ⟨ca9_69, List.forall_mem_cons.mpr ⟨ca9_73, List.forall_mem_cons.mpr ⟨ca9_77, List.forall_mem_cons.mpr ⟨ca9_80, List.forall_mem_cons.mpr ⟨ca9_91, List.forall_mem_cons.mpr ⟨ca9_95, List.forall_mem_cons.mpr ⟨ca9_99, List.forall_mem_cons.mpr ⟨ca9_103, List.forall_mem_cons.mpr ⟨ca9_109, List.forall_mem_cons.mpr ⟨ca9_112, List.forall_mem_cons.mpr ⟨ca9_116, List.forall_mem_cons.mpr ⟨ca9_119, List.forall_mem_cons.mpr ⟨ca9_123, List.forall_mem_cons.mpr ⟨ca9_126, List.forall_mem_cons.mpr ⟨ca9_129, List.forall_mem_cons.mpr ⟨ca9_132, List.forall_mem_cons.mpr ⟨ca9_135, List.forall_mem_cons.mpr ⟨ca9_139, List.forall_mem_cons.mpr ⟨ca9_142, List.forall_mem_cons.mpr ⟨ca9_145, List.forall_mem_cons.mpr ⟨ca9_148, List.forall_mem_cons.mpr ⟨ca9_152, List.forall_mem_cons.mpr ⟨ca9_155, List.forall_mem_cons.mpr ⟨ca9_158, List.forall_mem_cons.mpr ⟨ca9_163, List.forall_mem_cons.mpr ⟨ca9_175, List.forall_mem_cons.mpr ⟨ca9_179, List.forall_mem_cons.mpr ⟨ca9_185, List.forall_mem_cons.mpr ⟨ca9_188, List.forall_mem_cons.mpr ⟨ca9_191, fun _ h => absurd h List.not_mem_nil⟩⟩⟩⟩⟩⟩⟩⟩⟩⟩⟩⟩⟩⟩⟩⟩⟩⟩⟩⟩⟩⟩⟩⟩⟩⟩⟩⟩⟩⟩⟩
def cal : Nat → Nat → Option (Nat × MT) := fun own => match own with
  | 0 => asc ct0
  | 1 => asc ct1
  | 2 => asc ct2
  | 3 => asc ct3
  | 4 => asc ct4
  | 5 => asc ct5
  | 6 => asc ct6
  | 7 => asc ct7
  | 8 => asc ct8
  | 9 => asc ct9
  | _ => fun _ => none
theorem cal_ok {own idx kind : Nat} {y' : MT} (h : cal own idx = some (kind, y')) : CaP own idx kind y' := by
  match own, h with
  | 0, h => exact ct0_ok (idx, kind, y') (asc_mem _ _ _ h)
  | 1, h => exact ct1_ok (idx, kind, y') (asc_mem _ _ _ h)
  | 2, h => exact ct2_ok (idx, kind, y') (asc_mem _ _ _ h)
  | 3, h => exact ct3_ok (idx, kind, y') (asc_mem _ _ _ h)
  | 4, h => exact ct4_ok (idx, kind, y') (asc_mem _ _ _ h)
  | 5, h => exact ct5_ok (idx, kind, y') (asc_mem _ _ _ h)
  | 6, h => exact ct6_ok (idx, kind, y') (asc_mem _ _ _ h)
  | 7, h => exact ct7_ok (idx, kind, y') (asc_mem _ _ _ h)
  | 8, h => exact ct8_ok (idx, kind, y') (asc_mem _ _ _ h)
  | 9, h => exact ct9_ok (idx, kind, y') (asc_mem _ _ _ h)
  | n + 10, h => cases h
