/-! the law: its rows -/
def M_lawN (nm : String) : MT := (99, ⟨"DependencyQueueLaw", nm, "([I)Z"⟩, cL_law, 4, (some .boolean), 1, 8, 292, tb_law)
theorem tok_lawN (nm : String) : TbOk (M_lawN nm) := fun pc i hi => tok_law pc i hi
/-- the script, of the old cells -/
def XL (B b L : Nat) (xs : Nat → Int32) : State → Prop := fun s => va_X b L xs s s.heap ∧ b < s.heap.size ∧ b < B
theorem jj_wk {X : State → Prop} {G : GC} {B : Nat} {y : MT} {pc : Nat} {lv : List (Option Value)} {st : List Value} {n : Nat} {h : HT} {kc ks : Nat} {post : Option Value → Nat → HT → Prop} {kc' ks' : Nat} (h1 : kc' ≤ kc) (h2 : ks' ≤ ks) (K : JJ X G B y pc lv st n h kc' ks' post) : JJ X G B y pc lv st n h kc ks post := by
  intro p l e R s m args below meth c H locs cells slots ls mc ms C P S L k1 k2 k3 k4
  exact K p l e R s m args below meth c H locs cells slots ls mc ms C P S L (by omega) (by omega) k3 k4
theorem jj_sld {G : GC} {B : Nat} {y : MT} {pc : Nat} {lv : List (Option Value)} {st : List Value} {n : Nat} {h : HT} {kc ks : Nat} {post : Option Value → Nat → HT → Prop} {b L : Nat} {xs : Nat → Int32} {j : Nat} (hd : lk (M_tb y) pc = some .iaload) (hj : j < L) (hL : L ≤ 3072) (K : JJ (XL B b L xs) G B y (pc + 1) lv (.int (xs j) :: st) n h kc ks post) : JJ (XL B b L xs) G B y pc lv (.int (nI j) :: .ref b :: st) n h kc ks post := by
  intro p l e R s m args below meth c H locs cells slots ls mc ms C P S Lv k1 k2 k3 k4
  have C0 := C
  obtain ⟨hx, hb, hr, hml, hown, hts, hlk, hnm, hK, hB, hfr, hlo, hT, hXW, hX, hCO, ho⟩ := C
  refine va_sld hx hb hX.1 hX.2.1 (Nat.not_le.mpr hX.2.2) S (vp_in_nI hj (by omega)) (hT.at hd rfl) ?_
  rw [nI_clamp (by omega)]
  exact K p l e R s m args below meth c H locs cells slots ls mc ms C0 P S Lv k1 k2 k3 k4
theorem jj_slen {G : GC} {B : Nat} {y : MT} {pc : Nat} {lv : List (Option Value)} {st : List Value} {n : Nat} {h : HT} {kc ks : Nat} {post : Option Value → Nat → HT → Prop} {b L : Nat} {xs : Nat → Int32} (hd : lk (M_tb y) pc = some .arraylength) (K : JJ (XL B b L xs) G B y (pc + 1) lv (.int (nI L) :: st) n h kc ks post) : JJ (XL B b L xs) G B y pc lv (.ref b :: st) n h kc ks post := by
  intro p l e R s m args below meth c H locs cells slots ls mc ms C P S Lv k1 k2 k3 k4
  have C0 := C
  obtain ⟨hx, hb, hr, hml, hown, hts, hlk, hnm, hK, hB, hfr, hlo, hT, hXW, hX, hCO, ho⟩ := C
  exact va_slen hx hb hX.1 hX.2.1 (Nat.not_le.mpr hX.2.2) S (hT.at hd rfl) (K p l e R s m args below meth c H locs cells slots ls mc ms C0 P S Lv k1 k2 k3 k4)
/-- one of the script's ints: five instructions -/
theorem jj_arg {G : GC} {B : Nat} {y : MT} {pc : Nat} {st : List Value} {n : Nat} {h : HT} {kc ks : Nat} {post : Option Value → Nat → HT → Prop} {b L : Nat} {xs : Nat → Int32} {i : Nat} {l1 l2 : Option Value} (k : Int) (j : Nat) (hd0 : lk (M_tb y) pc = some (.aload_n 0)) (hd1 : lk (M_tb y) (pc + 1) = some (.iload_n 3)) (hd2 : lk (M_tb y) (pc + 2) = some (.iconst k)) (hd3 : lk (M_tb y) (pc + 3) = some .iadd) (hd4 : lk (M_tb y) (pc + 4) = some .iaload) (hk : Int32.ofInt k = nI j) (hj : i + j < L) (hL : L ≤ 3072)
    (K : JJ (XL B b L xs) G B y (pc + 5) [some (.ref b), l1, l2, some (.int (nI i))] (.int (xs (i + j)) :: st) n h kc ks post) : JJ (XL B b L xs) G B y pc [some (.ref b), l1, l2, some (.int (nI i))] st n h kc ks post := by
  refine jj_s (pc' := pc + 1) hd0 rfl ?_
  refine jj_s (pc' := pc + 2) hd1 rfl ?_
  refine jj_s (pc' := pc + 3) hd2 rfl ?_
  refine jj_s (pc' := pc + 4) hd3 rfl ?_
  rw [hk, nI_add]
  exact jj_sld hd4 hj hL K
theorem law_gt {L i : Nat} (hL : L ≤ 3072) (hi : i ≤ 4000) : (nI L - 6 < nI i) ↔ L < i + 6 := by
  rcases Nat.lt_or_ge L 6 with q | q
  · have h6 : nI L - 6 < 0 := by
      have : L = 0 ∨ L = 1 ∨ L = 2 ∨ L = 3 ∨ L = 4 ∨ L = 5 := by omega
      rcases this with rfl | rfl | rfl | rfl | rfl | rfl <;> decide
    have h0 : (0 : Int32) ≤ nI i := nI_pos' (by omega)
    exact ⟨fun _ => by omega, fun _ => Int32.lt_of_lt_of_le h6 h0⟩
  · have e : nI L - 6 = nI (L - 6) := pk_sub (a := L) (b := 6) q
    rw [e, nI_ltI (by omega) (by omega)]
    omega
theorem and63 (x : Int32) : ∃ k, k < 64 ∧ x &&& 63 = nI k := by
  refine ⟨(x &&& 63).toBitVec.toNat, ?_, ?_⟩
  · rw [Int32.toBitVec_and, BitVec.toNat_and]
    exact Nat.lt_of_le_of_lt Nat.and_le_right (by decide)
  · apply Int32.toBitVec_inj.mp
    show (x &&& 63).toBitVec = BitVec.ofNat 32 (x &&& 63).toBitVec.toNat
    rw [BitVec.ofNat_toNat, BitVec.setWidth_eq]
theorem nI_tI {k : Nat} (h : k < 64) : (nI k).toInt = (k : Int) := by
  have : ∀ k, k < 64 → (nI k).toInt = (k : Int) := by decide +kernel
  exact this k h

theorem lkL_9 (nm : String) : LkI (M_lawN nm) 9 M8_init := ⟨(tm1 16 rfl rfl), im8_init, rfl⟩
theorem lkL_12 (nm : String) : LkI (M_lawN nm) 12 M9_init := ⟨(tm4 7 rfl rfl), im9_init, rfl⟩
theorem lkL_13 (nm : String) : LkV (M_lawN nm) 13 M8_add := ⟨(tm2 14 rfl rfl), im8_add, se8_add⟩
theorem lkL_17 (nm : String) : LkV (M_lawN nm) 17 M9_add := ⟨(tm4 90 rfl rfl), im9_add, se9_add⟩
theorem lkL_18 (nm : String) : LkV (M_lawN nm) 18 M8_link := ⟨(tm2 37 rfl rfl), im8_link, se8_link⟩
theorem lkL_22 (nm : String) : LkV (M_lawN nm) 22 M9_link := ⟨(tm4 129 rfl rfl), im9_link, se9_link⟩
theorem lkL_23 (nm : String) : LkV (M_lawN nm) 23 M8_witness := ⟨(tm2 119 rfl rfl), im8_witness, se8_witness⟩
theorem lkL_27 (nm : String) : LkV (M_lawN nm) 27 M9_witness := ⟨(tm4 149 rfl rfl), im9_witness, se9_witness⟩
theorem lkL_28 (nm : String) : LkV (M_lawN nm) 28 M8_unlink := ⟨(tm2 123 rfl rfl), im8_unlink, se8_unlink⟩
theorem lkL_32 (nm : String) : LkV (M_lawN nm) 32 M9_unlink := ⟨(tm4 153 rfl rfl), im9_unlink, se9_unlink⟩
theorem lkL_33 (nm : String) : LkV (M_lawN nm) 33 M8_setPriority := ⟨(tm2 129 rfl rfl), im8_setPriority, se8_setPriority⟩
theorem lkL_36 (nm : String) : LkV (M_lawN nm) 36 M9_setPriority := ⟨(tm4 157 rfl rfl), im9_setPriority, se9_setPriority⟩
theorem lkL_37 (nm : String) : LkV (M_lawN nm) 37 M8_setPolicy := ⟨(tm2 134 rfl rfl), im8_setPolicy, se8_setPolicy⟩
theorem lkL_40 (nm : String) : LkV (M_lawN nm) 40 M9_setPolicy := ⟨(tm4 161 rfl rfl), im9_setPolicy, se9_setPolicy⟩
theorem lkL_41 (nm : String) : LkV (M_lawN nm) 41 M8_setGroupLimit := ⟨(tm2 138 rfl rfl), im8_setGroupLimit, se8_setGroupLimit⟩
theorem lkL_44 (nm : String) : LkV (M_lawN nm) 44 M9_setGroupLimit := ⟨(tm4 165 rfl rfl), im9_setGroupLimit, se9_setGroupLimit⟩
theorem lkL_45 (nm : String) : LkV (M_lawN nm) 45 M8_clear := ⟨(tm2 142 rfl rfl), im8_clear, se8_clear⟩
theorem lkL_49 (nm : String) : LkV (M_lawN nm) 49 M9_clear := ⟨(tm4 169 rfl rfl), im9_clear, se9_clear⟩
theorem lkL_50 (nm : String) : LkV (M_lawN nm) 50 M8_receive := ⟨(tm2 154 rfl rfl), im8_receive, se8_receive⟩
theorem lkL_53 (nm : String) : LkV (M_lawN nm) 53 M9_receive := ⟨(tm4 173 rfl rfl), im9_receive, se9_receive⟩
theorem lkL_54 (nm : String) : LkV (M_lawN nm) 54 M8_receipt := ⟨(tm2 194 rfl rfl), im8_receipt, se8_receipt⟩
theorem lkL_57 (nm : String) : LkV (M_lawN nm) 57 M9_receipt := ⟨(tm4 193 rfl rfl), im9_receipt, se9_receipt⟩
theorem lkL_58 (nm : String) : LkV (M_lawN nm) 58 M8_finish := ⟨(tm2 198 rfl rfl), im8_finish, se8_finish⟩
theorem lkL_61 (nm : String) : LkV (M_lawN nm) 61 M9_finish := ⟨(tm4 197 rfl rfl), im9_finish, se9_finish⟩
theorem lkL_62 (nm : String) : LkV (M_lawN nm) 62 M8_giveBack := ⟨(tm2 215 rfl rfl), im8_giveBack, se8_giveBack⟩
theorem lkL_65 (nm : String) : LkV (M_lawN nm) 65 M9_giveBack := ⟨(tm4 205 rfl rfl), im9_giveBack, se9_giveBack⟩
theorem lkL_66 (nm : String) : LkV (M_lawN nm) 66 M8_extend := ⟨(tm2 223 rfl rfl), im8_extend, se8_extend⟩
theorem lkL_69 (nm : String) : LkV (M_lawN nm) 69 M9_extend := ⟨(tm4 213 rfl rfl), im9_extend, se9_extend⟩
theorem lkL_70 (nm : String) : LkV (M_lawN nm) 70 M8_cancel := ⟨(tm2 227 rfl rfl), im8_cancel, se8_cancel⟩
theorem lkL_73 (nm : String) : LkV (M_lawN nm) 73 M9_cancel := ⟨(tm4 217 rfl rfl), im9_cancel, se9_cancel⟩
theorem lkL_74 (nm : String) : LkV (M_lawN nm) 74 M8_revive := ⟨(tm2 231 rfl rfl), im8_revive, se8_revive⟩
theorem lkL_77 (nm : String) : LkV (M_lawN nm) 77 M9_revive := ⟨(tm4 221 rfl rfl), im9_revive, se9_revive⟩
theorem lkL_78 (nm : String) : LkV (M_lawN nm) 78 M8_tick := ⟨(tm2 237 rfl rfl), im8_tick, se8_tick⟩
theorem lkL_81 (nm : String) : LkV (M_lawN nm) 81 M9_tick := ⟨(tm4 225 rfl rfl), im9_tick, se9_tick⟩
theorem lkL_82 (nm : String) : LkV (M_lawN nm) 82 M8_items := ⟨(tm3 6 rfl rfl), im8_items, se8_items⟩
theorem lkL_85 (nm : String) : LkV (M_lawN nm) 85 M9_items := ⟨(tm4 229 rfl rfl), im9_items, se9_items⟩
theorem lkL_86 (nm : String) : LkV (M_lawN nm) 86 M8_edges := ⟨(tm3 10 rfl rfl), im8_edges, se8_edges⟩
theorem lkL_89 (nm : String) : LkV (M_lawN nm) 89 M9_edges := ⟨(tm4 233 rfl rfl), im9_edges, se9_edges⟩
theorem lkL_90 (nm : String) : LkV (M_lawN nm) 90 M8_time := ⟨(tm3 14 rfl rfl), im8_time, se8_time⟩
theorem lkL_93 (nm : String) : LkV (M_lawN nm) 93 M9_time := ⟨(tm4 234 rfl rfl), im9_time, se9_time⟩
theorem lkL_94 (nm : String) : LkV (M_lawN nm) 94 M8_state := ⟨(tm3 18 rfl rfl), im8_state, se8_state⟩
theorem lkL_97 (nm : String) : LkV (M_lawN nm) 97 M9_state := ⟨(tm4 238 rfl rfl), im9_state, se9_state⟩
theorem lkL_98 (nm : String) : LkV (M_lawN nm) 98 M8_itemsIn := ⟨(tm3 22 rfl rfl), im8_itemsIn, se8_itemsIn⟩
theorem lkL_101 (nm : String) : LkV (M_lawN nm) 101 M9_itemsIn := ⟨(tm5 2 rfl rfl), im9_itemsIn, se9_itemsIn⟩
theorem lkL_102 (nm : String) : LkV (M_lawN nm) 102 M8_property := ⟨(tm3 27 rfl rfl), im8_property, se8_property⟩
theorem lkL_105 (nm : String) : LkV (M_lawN nm) 105 M9_property := ⟨(tm5 6 rfl rfl), im9_property, se9_property⟩
theorem lkL_106 (nm : String) : LkV (M_lawN nm) 106 M8_edge := ⟨(tm3 31 rfl rfl), im8_edge, se8_edge⟩
theorem lkL_109 (nm : String) : LkV (M_lawN nm) 109 M9_edge := ⟨(tm5 10 rfl rfl), im9_edge, se9_edge⟩
theorem lkL_110 (nm : String) : LkV (M_lawN nm) 110 M8_rank := ⟨(tm3 39 rfl rfl), im8_rank, se8_rank⟩
theorem lkL_113 (nm : String) : LkV (M_lawN nm) 113 M9_rank := ⟨(tm5 14 rfl rfl), im9_rank, se9_rank⟩
theorem lkL_114 (nm : String) : LkV (M_lawN nm) 114 M8_height := ⟨(tm3 44 rfl rfl), im8_height, se8_height⟩
theorem lkL_117 (nm : String) : LkV (M_lawN nm) 117 M9_height := ⟨(tm5 18 rfl rfl), im9_height, se9_height⟩
theorem lkL_118 (nm : String) : LkV (M_lawN nm) 118 M8_before := ⟨(tm3 48 rfl rfl), im8_before, se8_before⟩
theorem lkL_121 (nm : String) : LkV (M_lawN nm) 121 M9_before := ⟨(tm5 22 rfl rfl), im9_before, se9_before⟩
theorem lkL_122 (nm : String) : LkV (M_lawN nm) 122 M8_wouldDoom := ⟨(tm3 52 rfl rfl), im8_wouldDoom, se8_wouldDoom⟩
theorem lkL_125 (nm : String) : LkV (M_lawN nm) 125 M9_wouldDoom := ⟨(tm5 30 rfl rfl), im9_wouldDoom, se9_wouldDoom⟩
theorem lkL_126 (nm : String) : LkV (M_lawN nm) 126 M8_isSuperfluous := ⟨(tm3 60 rfl rfl), im8_isSuperfluous, se8_isSuperfluous⟩
theorem lkL_129 (nm : String) : LkV (M_lawN nm) 129 M9_isSuperfluous := ⟨(tm5 34 rfl rfl), im9_isSuperfluous, se9_isSuperfluous⟩
theorem lkL_130 (nm : String) : LkV (M_lawN nm) 130 M8_planLength := ⟨(tm3 69 rfl rfl), im8_planLength, se8_planLength⟩
theorem lkL_133 (nm : String) : LkV (M_lawN nm) 133 M9_planLength := ⟨(tm5 38 rfl rfl), im9_planLength, se9_planLength⟩
theorem lkL_134 (nm : String) : LkV (M_lawN nm) 134 M8_planStart := ⟨(tm3 105 rfl rfl), im8_planStart, se8_planStart⟩
theorem lkL_137 (nm : String) : LkV (M_lawN nm) 137 M9_planStart := ⟨(tm5 54 rfl rfl), im9_planStart, se9_planStart⟩
theorem lkL_138 (nm : String) : LkV (M_lawN nm) 138 M8_bestWorkers := ⟨(tm3 109 rfl rfl), im8_bestWorkers, se8_bestWorkers⟩
theorem lkL_141 (nm : String) : LkV (M_lawN nm) 141 M9_bestWorkers := ⟨(tm5 58 rfl rfl), im9_bestWorkers, se9_bestWorkers⟩
theorem lkL_142 (nm : String) : LkV (M_lawN nm) 142 M8_slack := ⟨(tm3 113 rfl rfl), im8_slack, se8_slack⟩
theorem lkL_145 (nm : String) : LkV (M_lawN nm) 145 M9_slack := ⟨(tm5 62 rfl rfl), im9_slack, se9_slack⟩
theorem lkL_146 (nm : String) : LkV (M_lawN nm) 146 M8_width := ⟨(tm3 128 rfl rfl), im8_width, se8_width⟩
theorem lkL_149 (nm : String) : LkV (M_lawN nm) 149 M9_width := ⟨(tm5 66 rfl rfl), im9_width, se9_width⟩
theorem lkL_150 (nm : String) : LkV (M_lawN nm) 150 M8_orders := ⟨(tm3 150 rfl rfl), im8_orders, se8_orders⟩
theorem lkL_154 (nm : String) : LkV (M_lawN nm) 154 M9_orders := ⟨(tm5 78 rfl rfl), im9_orders, se9_orders⟩
theorem lkL_155 (nm : String) : LkV (M_lawN nm) 155 M8_write := ⟨(tm3 172 rfl rfl), im8_write, se8_write⟩
theorem lkL_158 (nm : String) : LkV (M_lawN nm) 158 M9_write := ⟨(tm5 87 rfl rfl), im9_write, se9_write⟩
theorem lkL_159 (nm : String) : LkV (M_lawN nm) 159 M8_wipe := ⟨(tm3 180 rfl rfl), im8_wipe, se8_wipe⟩
theorem lkL_162 (nm : String) : LkV (M_lawN nm) 162 M9_wipe := ⟨(tm5 91 rfl rfl), im9_wipe, se9_wipe⟩
theorem lkL_163 (nm : String) : LkV (M_lawN nm) 163 M8_fault := ⟨(tm3 184 rfl rfl), im8_fault, se8_fault⟩
theorem lkL_166 (nm : String) : LkV (M_lawN nm) 166 M9_fault := ⟨(tm5 95 rfl rfl), im9_fault, se9_fault⟩
theorem lkL_167 (nm : String) : LkV (M_lawN nm) 167 M8_load := ⟨(tm3 218 rfl rfl), im8_load, se8_load⟩
theorem lkL_170 (nm : String) : LkV (M_lawN nm) 170 M9_load := ⟨(tm5 115 rfl rfl), im9_load, se9_load⟩
theorem lkL_171 (nm : String) : LkV (M_lawN nm) 171 M8_save := ⟨(tm3 232 rfl rfl), im8_save, se8_save⟩
theorem lkL_174 (nm : String) : LkV (M_lawN nm) 174 M9_save := ⟨(tm5 120 rfl rfl), im9_save, se9_save⟩
theorem lkL_175 (nm : String) : LkV (M_lawN nm) 175 M8_restore := ⟨(tm4 1 rfl rfl), im8_restore, se8_restore⟩
theorem lkL_178 (nm : String) : LkV (M_lawN nm) 178 M9_restore := ⟨(tm5 124 rfl rfl), im9_restore, se9_restore⟩
theorem clL_7 (nm : String) : Cond.classLink (M_nm (M_lawN nm)).cls 7 RX8 ∈ tW := (tm1 14 rfl rfl)
theorem clL_10 (nm : String) : Cond.classLink (M_nm (M_lawN nm)).cls 10 RX9 ∈ tW := (tm4 5 rfl rfl)
