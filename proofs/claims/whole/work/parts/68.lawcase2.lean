theorem lcmp_self (v : Int64) : lg_cmp v v = 0 := by
  unfold lg_cmp
  simp
/-! the law: its forty calls -/
section
variable {nm : String} {G : GC} {B b L : Nat} {xs : Nat → Int32} {i n : Nat} {h : HT} {kc ks : Nat} {post : Option Value → Nat → HT → Prop}
set_option maxHeartbeats 4000000 in
set_option maxRecDepth 100000 in
theorem law_20 (hLS : LSt B n h) (hi : i + 6 ≤ L) (hL : L ≤ 3072) (hc1 : 14 ≤ kc) (hc2 : 278 ≤ ks) (K : ∀ n2 h2, LSt B n2 h2 → JJ (XL B b L xs) G B (M_lawN nm) 1229 [some (.ref b), some (.ref (B + 0)), some (.ref (B + 51)), some (.int (nI i))] [] n2 h2 (kc - 14) (ks - 278) post) : JJ (XL B b L xs) G B (M_lawN nm) 758 [some (.ref b), some (.ref (B + 0)), some (.ref (B + 51)), some (.int (nI i))] [] n h kc ks post := by
  have hobj : h 0 = some (dob B) := by obtain ⟨N, S, F, f, L, pt, len, C, sv, hL, hl, hI, hC, hM, hS⟩ := hLS; exact hC.obj
  refine jj_s (pc' := 759) rfl rfl ?_
  refine jj_arg 1 1 rfl rfl rfl rfl rfl rfl (by omega) hL ?_
  refine jj_cVP (as := [.int (xs (i + 1))]) (rest := []) (a := 0) (ci := 8) rfl ok8_itemsIn ow8_itemsIn rfl (lkL_98 nm) rfl hobj rfl rfl (fun v hv => by simp at hv; rw [hv]; rfl) (Nat.le_of_ble_eq_true rfl) (Nat.le_of_ble_eq_true rfl) (Nat.zero_le _) (Nat.zero_le _) (p_itemsIn hLS (xs (i + 1))) (fun r n2 h2 q => ?_)
  obtain ⟨v, rfl, ⟨fs, h51⟩, hq⟩ := q
  refine jj_s (pc' := 768) rfl rfl ?_
  refine jj_arg 1 1 rfl rfl rfl rfl rfl rfl (by omega) hL ?_
  refine jj_cVP (as := [.int (xs (i + 1))]) (rest := [.int v]) (a := 51) (ci := 9) rfl ok9_itemsIn ow9_itemsIn rfl (lkL_101 nm) rfl h51 rfl rfl (fun v hv => by simp at hv; rw [hv]; rfl) (Nat.le_of_ble_eq_true rfl) (Nat.le_of_ble_eq_true rfl) (Nat.zero_le _) (Nat.zero_le _) hq (fun r3 n3 h3 z => ?_)
  obtain ⟨rfl, hLS3⟩ := z
  refine jj_icmp_eq 1229 rfl rfl (fun _ => ?_) (fun c => absurd rfl c)
  exact jj_wk (by omega) (by omega) (K n3 h3 hLS3)
set_option maxHeartbeats 4000000 in
set_option maxRecDepth 100000 in
theorem law_21 (hLS : LSt B n h) (hi : i + 6 ≤ L) (hL : L ≤ 3072) (hc1 : 14 ≤ kc) (hc2 : 278 ≤ ks) (K : ∀ n2 h2, LSt B n2 h2 → JJ (XL B b L xs) G B (M_lawN nm) 1229 [some (.ref b), some (.ref (B + 0)), some (.ref (B + 51)), some (.int (nI i))] [] n2 h2 (kc - 14) (ks - 278) post) : JJ (XL B b L xs) G B (M_lawN nm) 781 [some (.ref b), some (.ref (B + 0)), some (.ref (B + 51)), some (.int (nI i))] [] n h kc ks post := by
  have hobj : h 0 = some (dob B) := by obtain ⟨N, S, F, f, L, pt, len, C, sv, hL, hl, hI, hC, hM, hS⟩ := hLS; exact hC.obj
  refine jj_s (pc' := 782) rfl rfl ?_
  refine jj_arg 1 1 rfl rfl rfl rfl rfl rfl (by omega) hL ?_
  refine jj_arg 2 2 rfl rfl rfl rfl rfl rfl (by omega) hL ?_
  refine jj_cVP (as := [.int (xs (i + 1)), .int (xs (i + 2))]) (rest := []) (a := 0) (ci := 8) rfl ok8_property ow8_property rfl (lkL_102 nm) rfl hobj rfl rfl (fun v hv => by simp at hv; rcases hv with rfl | rfl <;> rfl) (Nat.le_of_ble_eq_true rfl) (Nat.le_of_ble_eq_true rfl) (Nat.zero_le _) (Nat.zero_le _) (p_property hLS (xs (i + 1)) (xs (i + 2))) (fun r n2 h2 q => ?_)
  obtain ⟨v, rfl, ⟨fs, h51⟩, hq⟩ := q
  refine jj_s (pc' := 796) rfl rfl ?_
  refine jj_arg 1 1 rfl rfl rfl rfl rfl rfl (by omega) hL ?_
  refine jj_arg 2 2 rfl rfl rfl rfl rfl rfl (by omega) hL ?_
  refine jj_cVP (as := [.int (xs (i + 1)), .int (xs (i + 2))]) (rest := [.int v]) (a := 51) (ci := 9) rfl ok9_property ow9_property rfl (lkL_105 nm) rfl h51 rfl rfl (fun v hv => by simp at hv; rcases hv with rfl | rfl <;> rfl) (Nat.le_of_ble_eq_true rfl) (Nat.le_of_ble_eq_true rfl) (Nat.zero_le _) (Nat.zero_le _) hq (fun r3 n3 h3 z => ?_)
  obtain ⟨rfl, hLS3⟩ := z
  refine jj_icmp_eq 1229 rfl rfl (fun _ => ?_) (fun c => absurd rfl c)
  exact jj_wk (by omega) (by omega) (K n3 h3 hLS3)
set_option maxHeartbeats 4000000 in
set_option maxRecDepth 100000 in
theorem law_22 (hLS : LSt B n h) (hi : i + 6 ≤ L) (hL : L ≤ 3072) (hc1 : 14 ≤ kc) (hc2 : 278 ≤ ks) (K : ∀ n2 h2, LSt B n2 h2 → JJ (XL B b L xs) G B (M_lawN nm) 1229 [some (.ref b), some (.ref (B + 0)), some (.ref (B + 51)), some (.int (nI i))] [] n2 h2 (kc - 14) (ks - 278) post) : JJ (XL B b L xs) G B (M_lawN nm) 814 [some (.ref b), some (.ref (B + 0)), some (.ref (B + 51)), some (.int (nI i))] [] n h kc ks post := by
  have hobj : h 0 = some (dob B) := by obtain ⟨N, S, F, f, L, pt, len, C, sv, hL, hl, hI, hC, hM, hS⟩ := hLS; exact hC.obj
  refine jj_s (pc' := 815) rfl rfl ?_
  refine jj_arg 1 1 rfl rfl rfl rfl rfl rfl (by omega) hL ?_
  refine jj_arg 2 2 rfl rfl rfl rfl rfl rfl (by omega) hL ?_
  refine jj_cVP (as := [.int (xs (i + 1)), .int (xs (i + 2))]) (rest := []) (a := 0) (ci := 8) rfl ok8_edge ow8_edge rfl (lkL_106 nm) rfl hobj rfl rfl (fun v hv => by simp at hv; rcases hv with rfl | rfl <;> rfl) (Nat.le_of_ble_eq_true rfl) (Nat.le_of_ble_eq_true rfl) (Nat.zero_le _) (Nat.zero_le _) (p_edge hLS (xs (i + 1)) (xs (i + 2))) (fun r n2 h2 q => ?_)
  obtain ⟨v, rfl, ⟨fs, h51⟩, hq⟩ := q
  refine jj_s (pc' := 829) rfl rfl ?_
  refine jj_arg 1 1 rfl rfl rfl rfl rfl rfl (by omega) hL ?_
  refine jj_arg 2 2 rfl rfl rfl rfl rfl rfl (by omega) hL ?_
  refine jj_cVP (as := [.int (xs (i + 1)), .int (xs (i + 2))]) (rest := [.int v]) (a := 51) (ci := 9) rfl ok9_edge ow9_edge rfl (lkL_109 nm) rfl h51 rfl rfl (fun v hv => by simp at hv; rcases hv with rfl | rfl <;> rfl) (Nat.le_of_ble_eq_true rfl) (Nat.le_of_ble_eq_true rfl) (Nat.zero_le _) (Nat.zero_le _) hq (fun r3 n3 h3 z => ?_)
  obtain ⟨rfl, hLS3⟩ := z
  refine jj_icmp_eq 1229 rfl rfl (fun _ => ?_) (fun c => absurd rfl c)
  exact jj_wk (by omega) (by omega) (K n3 h3 hLS3)
set_option maxHeartbeats 4000000 in
set_option maxRecDepth 100000 in
theorem law_23 (hLS : LSt B n h) (hi : i + 6 ≤ L) (hL : L ≤ 3072) (hc1 : 14 ≤ kc) (hc2 : 278 ≤ ks) (K : ∀ n2 h2, LSt B n2 h2 → JJ (XL B b L xs) G B (M_lawN nm) 1229 [some (.ref b), some (.ref (B + 0)), some (.ref (B + 51)), some (.int (nI i))] [] n2 h2 (kc - 14) (ks - 278) post) : JJ (XL B b L xs) G B (M_lawN nm) 847 [some (.ref b), some (.ref (B + 0)), some (.ref (B + 51)), some (.int (nI i))] [] n h kc ks post := by
  have hobj : h 0 = some (dob B) := by obtain ⟨N, S, F, f, L, pt, len, C, sv, hL, hl, hI, hC, hM, hS⟩ := hLS; exact hC.obj
  refine jj_s (pc' := 848) rfl rfl ?_
  refine jj_arg 1 1 rfl rfl rfl rfl rfl rfl (by omega) hL ?_
  refine jj_cVP (as := [.int (xs (i + 1))]) (rest := []) (a := 0) (ci := 8) rfl ok8_rank ow8_rank rfl (lkL_110 nm) rfl hobj rfl rfl (fun v hv => by simp at hv; rw [hv]; rfl) (Nat.le_of_ble_eq_true rfl) (Nat.le_of_ble_eq_true rfl) (Nat.zero_le _) (Nat.zero_le _) (p_rank hLS (xs (i + 1))) (fun r n2 h2 q => ?_)
  obtain ⟨v, rfl, ⟨fs, h51⟩, hq⟩ := q
  refine jj_s (pc' := 857) rfl rfl ?_
  refine jj_arg 1 1 rfl rfl rfl rfl rfl rfl (by omega) hL ?_
  refine jj_cVP (as := [.int (xs (i + 1))]) (rest := [.int v]) (a := 51) (ci := 9) rfl ok9_rank ow9_rank rfl (lkL_113 nm) rfl h51 rfl rfl (fun v hv => by simp at hv; rw [hv]; rfl) (Nat.le_of_ble_eq_true rfl) (Nat.le_of_ble_eq_true rfl) (Nat.zero_le _) (Nat.zero_le _) hq (fun r3 n3 h3 z => ?_)
  obtain ⟨rfl, hLS3⟩ := z
  refine jj_icmp_eq 1229 rfl rfl (fun _ => ?_) (fun c => absurd rfl c)
  exact jj_wk (by omega) (by omega) (K n3 h3 hLS3)
set_option maxHeartbeats 4000000 in
set_option maxRecDepth 100000 in
theorem law_24 (hLS : LSt B n h) (hi : i + 6 ≤ L) (hL : L ≤ 3072) (hc1 : 14 ≤ kc) (hc2 : 278 ≤ ks) (K : ∀ n2 h2, LSt B n2 h2 → JJ (XL B b L xs) G B (M_lawN nm) 1229 [some (.ref b), some (.ref (B + 0)), some (.ref (B + 51)), some (.int (nI i))] [] n2 h2 (kc - 14) (ks - 278) post) : JJ (XL B b L xs) G B (M_lawN nm) 870 [some (.ref b), some (.ref (B + 0)), some (.ref (B + 51)), some (.int (nI i))] [] n h kc ks post := by
  have hobj : h 0 = some (dob B) := by obtain ⟨N, S, F, f, L, pt, len, C, sv, hL, hl, hI, hC, hM, hS⟩ := hLS; exact hC.obj
  refine jj_s (pc' := 871) rfl rfl ?_
  refine jj_arg 1 1 rfl rfl rfl rfl rfl rfl (by omega) hL ?_
  refine jj_cVP (as := [.int (xs (i + 1))]) (rest := []) (a := 0) (ci := 8) rfl ok8_height ow8_height rfl (lkL_114 nm) rfl hobj rfl rfl (fun v hv => by simp at hv; rw [hv]; rfl) (Nat.le_of_ble_eq_true rfl) (Nat.le_of_ble_eq_true rfl) (Nat.zero_le _) (Nat.zero_le _) (p_height hLS (xs (i + 1))) (fun r n2 h2 q => ?_)
  obtain ⟨v, rfl, ⟨fs, h51⟩, hq⟩ := q
  refine jj_s (pc' := 880) rfl rfl ?_
  refine jj_arg 1 1 rfl rfl rfl rfl rfl rfl (by omega) hL ?_
  refine jj_cVP (as := [.int (xs (i + 1))]) (rest := [.int v]) (a := 51) (ci := 9) rfl ok9_height ow9_height rfl (lkL_117 nm) rfl h51 rfl rfl (fun v hv => by simp at hv; rw [hv]; rfl) (Nat.le_of_ble_eq_true rfl) (Nat.le_of_ble_eq_true rfl) (Nat.zero_le _) (Nat.zero_le _) hq (fun r3 n3 h3 z => ?_)
  obtain ⟨rfl, hLS3⟩ := z
  refine jj_icmp_eq 1229 rfl rfl (fun _ => ?_) (fun c => absurd rfl c)
  exact jj_wk (by omega) (by omega) (K n3 h3 hLS3)
set_option maxHeartbeats 4000000 in
set_option maxRecDepth 100000 in
theorem law_25 (hLS : LSt B n h) (hi : i + 6 ≤ L) (hL : L ≤ 3072) (hc1 : 14 ≤ kc) (hc2 : 278 ≤ ks) (K : ∀ n2 h2, LSt B n2 h2 → JJ (XL B b L xs) G B (M_lawN nm) 1229 [some (.ref b), some (.ref (B + 0)), some (.ref (B + 51)), some (.int (nI i))] [] n2 h2 (kc - 14) (ks - 278) post) : JJ (XL B b L xs) G B (M_lawN nm) 893 [some (.ref b), some (.ref (B + 0)), some (.ref (B + 51)), some (.int (nI i))] [] n h kc ks post := by
  have hobj : h 0 = some (dob B) := by obtain ⟨N, S, F, f, L, pt, len, C, sv, hL, hl, hI, hC, hM, hS⟩ := hLS; exact hC.obj
  refine jj_s (pc' := 894) rfl rfl ?_
  refine jj_arg 1 1 rfl rfl rfl rfl rfl rfl (by omega) hL ?_
  refine jj_cVP (as := [.int (xs (i + 1))]) (rest := []) (a := 0) (ci := 8) rfl ok8_before ow8_before rfl (lkL_118 nm) rfl hobj rfl rfl (fun v hv => by simp at hv; rw [hv]; rfl) (Nat.le_of_ble_eq_true rfl) (Nat.le_of_ble_eq_true rfl) (Nat.zero_le _) (Nat.zero_le _) (p_before hLS (xs (i + 1))) (fun r n2 h2 q => ?_)
  obtain ⟨v, rfl, ⟨fs, h51⟩, hq⟩ := q
  refine jj_s (pc' := 903) rfl rfl ?_
  refine jj_arg 1 1 rfl rfl rfl rfl rfl rfl (by omega) hL ?_
  refine jj_cVP (as := [.int (xs (i + 1))]) (rest := [.int v]) (a := 51) (ci := 9) rfl ok9_before ow9_before rfl (lkL_121 nm) rfl h51 rfl rfl (fun v hv => by simp at hv; rw [hv]; rfl) (Nat.le_of_ble_eq_true rfl) (Nat.le_of_ble_eq_true rfl) (Nat.zero_le _) (Nat.zero_le _) hq (fun r3 n3 h3 z => ?_)
  obtain ⟨rfl, hLS3⟩ := z
  refine jj_icmp_eq 1229 rfl rfl (fun _ => ?_) (fun c => absurd rfl c)
  exact jj_wk (by omega) (by omega) (K n3 h3 hLS3)
set_option maxHeartbeats 4000000 in
set_option maxRecDepth 100000 in
theorem law_26 (hLS : LSt B n h) (hi : i + 6 ≤ L) (hL : L ≤ 3072) (hc1 : 14 ≤ kc) (hc2 : 278 ≤ ks) (K : ∀ n2 h2, LSt B n2 h2 → JJ (XL B b L xs) G B (M_lawN nm) 1229 [some (.ref b), some (.ref (B + 0)), some (.ref (B + 51)), some (.int (nI i))] [] n2 h2 (kc - 14) (ks - 278) post) : JJ (XL B b L xs) G B (M_lawN nm) 916 [some (.ref b), some (.ref (B + 0)), some (.ref (B + 51)), some (.int (nI i))] [] n h kc ks post := by
  have hobj : h 0 = some (dob B) := by obtain ⟨N, S, F, f, L, pt, len, C, sv, hL, hl, hI, hC, hM, hS⟩ := hLS; exact hC.obj
  refine jj_s (pc' := 917) rfl rfl ?_
  refine jj_arg 1 1 rfl rfl rfl rfl rfl rfl (by omega) hL ?_
  refine jj_cVP (as := [.int (xs (i + 1))]) (rest := []) (a := 0) (ci := 8) rfl ok8_wouldDoom ow8_wouldDoom rfl (lkL_122 nm) rfl hobj rfl rfl (fun v hv => by simp at hv; rw [hv]; rfl) (Nat.le_of_ble_eq_true rfl) (Nat.le_of_ble_eq_true rfl) (Nat.zero_le _) (Nat.zero_le _) (p_wouldDoom hLS (xs (i + 1))) (fun r n2 h2 q => ?_)
  obtain ⟨v, rfl, ⟨fs, h51⟩, hq⟩ := q
  refine jj_s (pc' := 926) rfl rfl ?_
  refine jj_arg 1 1 rfl rfl rfl rfl rfl rfl (by omega) hL ?_
  refine jj_cVP (as := [.int (xs (i + 1))]) (rest := [.int v]) (a := 51) (ci := 9) rfl ok9_wouldDoom ow9_wouldDoom rfl (lkL_125 nm) rfl h51 rfl rfl (fun v hv => by simp at hv; rw [hv]; rfl) (Nat.le_of_ble_eq_true rfl) (Nat.le_of_ble_eq_true rfl) (Nat.zero_le _) (Nat.zero_le _) hq (fun r3 n3 h3 z => ?_)
  obtain ⟨rfl, hLS3⟩ := z
  refine jj_icmp_eq 1229 rfl rfl (fun _ => ?_) (fun c => absurd rfl c)
  exact jj_wk (by omega) (by omega) (K n3 h3 hLS3)
set_option maxHeartbeats 4000000 in
set_option maxRecDepth 100000 in
theorem law_27 (hLS : LSt B n h) (hi : i + 6 ≤ L) (hL : L ≤ 3072) (hc1 : 14 ≤ kc) (hc2 : 278 ≤ ks) (K : ∀ n2 h2, LSt B n2 h2 → JJ (XL B b L xs) G B (M_lawN nm) 1229 [some (.ref b), some (.ref (B + 0)), some (.ref (B + 51)), some (.int (nI i))] [] n2 h2 (kc - 14) (ks - 278) post) : JJ (XL B b L xs) G B (M_lawN nm) 939 [some (.ref b), some (.ref (B + 0)), some (.ref (B + 51)), some (.int (nI i))] [] n h kc ks post := by
  have hobj : h 0 = some (dob B) := by obtain ⟨N, S, F, f, L, pt, len, C, sv, hL, hl, hI, hC, hM, hS⟩ := hLS; exact hC.obj
  refine jj_s (pc' := 940) rfl rfl ?_
  refine jj_arg 1 1 rfl rfl rfl rfl rfl rfl (by omega) hL ?_
  refine jj_arg 2 2 rfl rfl rfl rfl rfl rfl (by omega) hL ?_
  refine jj_cVP (as := [.int (xs (i + 1)), .int (xs (i + 2))]) (rest := []) (a := 0) (ci := 8) rfl ok8_isSuperfluous ow8_isSuperfluous rfl (lkL_126 nm) rfl hobj rfl rfl (fun v hv => by simp at hv; rcases hv with rfl | rfl <;> rfl) (Nat.le_of_ble_eq_true rfl) (Nat.le_of_ble_eq_true rfl) (Nat.zero_le _) (Nat.zero_le _) (p_isSuperfluous hLS (xs (i + 1)) (xs (i + 2))) (fun r n2 h2 q => ?_)
  obtain ⟨v, rfl, ⟨fs, h51⟩, hq⟩ := q
  refine jj_s (pc' := 954) rfl rfl ?_
  refine jj_arg 1 1 rfl rfl rfl rfl rfl rfl (by omega) hL ?_
  refine jj_arg 2 2 rfl rfl rfl rfl rfl rfl (by omega) hL ?_
  refine jj_cVP (as := [.int (xs (i + 1)), .int (xs (i + 2))]) (rest := [.int v]) (a := 51) (ci := 9) rfl ok9_isSuperfluous ow9_isSuperfluous rfl (lkL_129 nm) rfl h51 rfl rfl (fun v hv => by simp at hv; rcases hv with rfl | rfl <;> rfl) (Nat.le_of_ble_eq_true rfl) (Nat.le_of_ble_eq_true rfl) (Nat.zero_le _) (Nat.zero_le _) hq (fun r3 n3 h3 z => ?_)
  obtain ⟨rfl, hLS3⟩ := z
  refine jj_icmp_eq 1229 rfl rfl (fun _ => ?_) (fun c => absurd rfl c)
  exact jj_wk (by omega) (by omega) (K n3 h3 hLS3)
set_option maxHeartbeats 4000000 in
set_option maxRecDepth 100000 in
theorem law_28 (hLS : LSt B n h) (hi : i + 6 ≤ L) (hL : L ≤ 3072) (hc1 : 14 ≤ kc) (hc2 : 278 ≤ ks) (K : ∀ n2 h2, LSt B n2 h2 → JJ (XL B b L xs) G B (M_lawN nm) 1229 [some (.ref b), some (.ref (B + 0)), some (.ref (B + 51)), some (.int (nI i))] [] n2 h2 (kc - 14) (ks - 278) post) : JJ (XL B b L xs) G B (M_lawN nm) 972 [some (.ref b), some (.ref (B + 0)), some (.ref (B + 51)), some (.int (nI i))] [] n h kc ks post := by
  have hobj : h 0 = some (dob B) := by obtain ⟨N, S, F, f, L, pt, len, C, sv, hL, hl, hI, hC, hM, hS⟩ := hLS; exact hC.obj
  refine jj_s (pc' := 973) rfl rfl ?_
  refine jj_arg 1 1 rfl rfl rfl rfl rfl rfl (by omega) hL ?_
  refine jj_arg 2 2 rfl rfl rfl rfl rfl rfl (by omega) hL ?_
  refine jj_cVP (as := [.int (xs (i + 1)), .int (xs (i + 2))]) (rest := []) (a := 0) (ci := 8) rfl ok8_planLength ow8_planLength rfl (lkL_130 nm) rfl hobj rfl rfl (fun v hv => by simp at hv; rcases hv with rfl | rfl <;> rfl) (Nat.le_of_ble_eq_true rfl) (Nat.le_of_ble_eq_true rfl) (Nat.zero_le _) (Nat.zero_le _) (p_planLength hLS (xs (i + 1)) (xs (i + 2))) (fun r n2 h2 q => ?_)
  obtain ⟨v, rfl, ⟨fs, h51⟩, hq⟩ := q
  refine jj_s (pc' := 987) rfl rfl ?_
  refine jj_arg 1 1 rfl rfl rfl rfl rfl rfl (by omega) hL ?_
  refine jj_arg 2 2 rfl rfl rfl rfl rfl rfl (by omega) hL ?_
  refine jj_cVP (as := [.int (xs (i + 1)), .int (xs (i + 2))]) (rest := [.int v]) (a := 51) (ci := 9) rfl ok9_planLength ow9_planLength rfl (lkL_133 nm) rfl h51 rfl rfl (fun v hv => by simp at hv; rcases hv with rfl | rfl <;> rfl) (Nat.le_of_ble_eq_true rfl) (Nat.le_of_ble_eq_true rfl) (Nat.zero_le _) (Nat.zero_le _) hq (fun r3 n3 h3 z => ?_)
  obtain ⟨rfl, hLS3⟩ := z
  refine jj_icmp_eq 1229 rfl rfl (fun _ => ?_) (fun c => absurd rfl c)
  exact jj_wk (by omega) (by omega) (K n3 h3 hLS3)
set_option maxHeartbeats 4000000 in
set_option maxRecDepth 100000 in
theorem law_29 (hLS : LSt B n h) (hi : i + 6 ≤ L) (hL : L ≤ 3072) (hc1 : 14 ≤ kc) (hc2 : 278 ≤ ks) (K : ∀ n2 h2, LSt B n2 h2 → JJ (XL B b L xs) G B (M_lawN nm) 1229 [some (.ref b), some (.ref (B + 0)), some (.ref (B + 51)), some (.int (nI i))] [] n2 h2 (kc - 14) (ks - 278) post) : JJ (XL B b L xs) G B (M_lawN nm) 1005 [some (.ref b), some (.ref (B + 0)), some (.ref (B + 51)), some (.int (nI i))] [] n h kc ks post := by
  have hobj : h 0 = some (dob B) := by obtain ⟨N, S, F, f, L, pt, len, C, sv, hL, hl, hI, hC, hM, hS⟩ := hLS; exact hC.obj
  refine jj_s (pc' := 1006) rfl rfl ?_
  refine jj_arg 1 1 rfl rfl rfl rfl rfl rfl (by omega) hL ?_
  refine jj_arg 2 2 rfl rfl rfl rfl rfl rfl (by omega) hL ?_
  refine jj_arg 3 3 rfl rfl rfl rfl rfl rfl (by omega) hL ?_
  refine jj_cVP (as := [.int (xs (i + 1)), .int (xs (i + 2)), .int (xs (i + 3))]) (rest := []) (a := 0) (ci := 8) rfl ok8_planStart ow8_planStart rfl (lkL_134 nm) rfl hobj rfl rfl (fun v hv => by simp at hv; rcases hv with rfl | rfl | rfl <;> rfl) (Nat.le_of_ble_eq_true rfl) (Nat.le_of_ble_eq_true rfl) (Nat.zero_le _) (Nat.zero_le _) (p_planStart hLS (xs (i + 1)) (xs (i + 2)) (xs (i + 3))) (fun r n2 h2 q => ?_)
  obtain ⟨v, rfl, ⟨fs, h51⟩, hq⟩ := q
  refine jj_s (pc' := 1025) rfl rfl ?_
  refine jj_arg 1 1 rfl rfl rfl rfl rfl rfl (by omega) hL ?_
  refine jj_arg 2 2 rfl rfl rfl rfl rfl rfl (by omega) hL ?_
  refine jj_arg 3 3 rfl rfl rfl rfl rfl rfl (by omega) hL ?_
  refine jj_cVP (as := [.int (xs (i + 1)), .int (xs (i + 2)), .int (xs (i + 3))]) (rest := [.int v]) (a := 51) (ci := 9) rfl ok9_planStart ow9_planStart rfl (lkL_137 nm) rfl h51 rfl rfl (fun v hv => by simp at hv; rcases hv with rfl | rfl | rfl <;> rfl) (Nat.le_of_ble_eq_true rfl) (Nat.le_of_ble_eq_true rfl) (Nat.zero_le _) (Nat.zero_le _) hq (fun r3 n3 h3 z => ?_)
  obtain ⟨rfl, hLS3⟩ := z
  refine jj_icmp_eq 1229 rfl rfl (fun _ => ?_) (fun c => absurd rfl c)
  exact jj_wk (by omega) (by omega) (K n3 h3 hLS3)
set_option maxHeartbeats 4000000 in
set_option maxRecDepth 100000 in
theorem law_30 (hLS : LSt B n h) (hi : i + 6 ≤ L) (hL : L ≤ 3072) (hc1 : 14 ≤ kc) (hc2 : 278 ≤ ks) (K : ∀ n2 h2, LSt B n2 h2 → JJ (XL B b L xs) G B (M_lawN nm) 1229 [some (.ref b), some (.ref (B + 0)), some (.ref (B + 51)), some (.int (nI i))] [] n2 h2 (kc - 14) (ks - 278) post) : JJ (XL B b L xs) G B (M_lawN nm) 1048 [some (.ref b), some (.ref (B + 0)), some (.ref (B + 51)), some (.int (nI i))] [] n h kc ks post := by
  have hobj : h 0 = some (dob B) := by obtain ⟨N, S, F, f, L, pt, len, C, sv, hL, hl, hI, hC, hM, hS⟩ := hLS; exact hC.obj
  refine jj_s (pc' := 1049) rfl rfl ?_
  refine jj_arg 1 1 rfl rfl rfl rfl rfl rfl (by omega) hL ?_
  refine jj_cVP (as := [.int (xs (i + 1))]) (rest := []) (a := 0) (ci := 8) rfl ok8_bestWorkers ow8_bestWorkers rfl (lkL_138 nm) rfl hobj rfl rfl (fun v hv => by simp at hv; rw [hv]; rfl) (Nat.le_of_ble_eq_true rfl) (Nat.le_of_ble_eq_true rfl) (Nat.zero_le _) (Nat.zero_le _) (p_bestWorkers hLS (xs (i + 1))) (fun r n2 h2 q => ?_)
  obtain ⟨v, rfl, ⟨fs, h51⟩, hq⟩ := q
  refine jj_s (pc' := 1058) rfl rfl ?_
  refine jj_arg 1 1 rfl rfl rfl rfl rfl rfl (by omega) hL ?_
  refine jj_cVP (as := [.int (xs (i + 1))]) (rest := [.int v]) (a := 51) (ci := 9) rfl ok9_bestWorkers ow9_bestWorkers rfl (lkL_141 nm) rfl h51 rfl rfl (fun v hv => by simp at hv; rw [hv]; rfl) (Nat.le_of_ble_eq_true rfl) (Nat.le_of_ble_eq_true rfl) (Nat.zero_le _) (Nat.zero_le _) hq (fun r3 n3 h3 z => ?_)
  obtain ⟨rfl, hLS3⟩ := z
  refine jj_icmp_eq 1229 rfl rfl (fun _ => ?_) (fun c => absurd rfl c)
  exact jj_wk (by omega) (by omega) (K n3 h3 hLS3)
set_option maxHeartbeats 4000000 in
set_option maxRecDepth 100000 in
theorem law_31 (hLS : LSt B n h) (hi : i + 6 ≤ L) (hL : L ≤ 3072) (hc1 : 14 ≤ kc) (hc2 : 278 ≤ ks) (K : ∀ n2 h2, LSt B n2 h2 → JJ (XL B b L xs) G B (M_lawN nm) 1229 [some (.ref b), some (.ref (B + 0)), some (.ref (B + 51)), some (.int (nI i))] [] n2 h2 (kc - 14) (ks - 278) post) : JJ (XL B b L xs) G B (M_lawN nm) 1071 [some (.ref b), some (.ref (B + 0)), some (.ref (B + 51)), some (.int (nI i))] [] n h kc ks post := by
  have hobj : h 0 = some (dob B) := by obtain ⟨N, S, F, f, L, pt, len, C, sv, hL, hl, hI, hC, hM, hS⟩ := hLS; exact hC.obj
  refine jj_s (pc' := 1072) rfl rfl ?_
  refine jj_arg 1 1 rfl rfl rfl rfl rfl rfl (by omega) hL ?_
  refine jj_cVP (as := [.int (xs (i + 1))]) (rest := []) (a := 0) (ci := 8) rfl ok8_slack ow8_slack rfl (lkL_142 nm) rfl hobj rfl rfl (fun v hv => by simp at hv; rw [hv]; rfl) (Nat.le_of_ble_eq_true rfl) (Nat.le_of_ble_eq_true rfl) (Nat.zero_le _) (Nat.zero_le _) (p_slack hLS (xs (i + 1))) (fun r n2 h2 q => ?_)
  obtain ⟨v, rfl, ⟨fs, h51⟩, hq⟩ := q
  refine jj_s (pc' := 1081) rfl rfl ?_
  refine jj_arg 1 1 rfl rfl rfl rfl rfl rfl (by omega) hL ?_
  refine jj_cVP (as := [.int (xs (i + 1))]) (rest := [.int v]) (a := 51) (ci := 9) rfl ok9_slack ow9_slack rfl (lkL_145 nm) rfl h51 rfl rfl (fun v hv => by simp at hv; rw [hv]; rfl) (Nat.le_of_ble_eq_true rfl) (Nat.le_of_ble_eq_true rfl) (Nat.zero_le _) (Nat.zero_le _) hq (fun r3 n3 h3 z => ?_)
  obtain ⟨rfl, hLS3⟩ := z
  refine jj_icmp_eq 1229 rfl rfl (fun _ => ?_) (fun c => absurd rfl c)
  exact jj_wk (by omega) (by omega) (K n3 h3 hLS3)
set_option maxHeartbeats 4000000 in
set_option maxRecDepth 100000 in
theorem law_32 (hLS : LSt B n h) (hi : i + 6 ≤ L) (hL : L ≤ 3072) (hc1 : 14 ≤ kc) (hc2 : 278 ≤ ks) (K : ∀ n2 h2, LSt B n2 h2 → JJ (XL B b L xs) G B (M_lawN nm) 1229 [some (.ref b), some (.ref (B + 0)), some (.ref (B + 51)), some (.int (nI i))] [] n2 h2 (kc - 14) (ks - 278) post) : JJ (XL B b L xs) G B (M_lawN nm) 1094 [some (.ref b), some (.ref (B + 0)), some (.ref (B + 51)), some (.int (nI i))] [] n h kc ks post := by
  have hobj : h 0 = some (dob B) := by obtain ⟨N, S, F, f, L, pt, len, C, sv, hL, hl, hI, hC, hM, hS⟩ := hLS; exact hC.obj
  refine jj_s (pc' := 1095) rfl rfl ?_
  refine jj_cVP (as := []) (rest := []) (a := 0) (ci := 8) rfl ok8_width ow8_width rfl (lkL_146 nm) rfl hobj rfl rfl (fun v hv => by simp at hv) (Nat.le_of_ble_eq_true rfl) (Nat.le_of_ble_eq_true rfl) (Nat.zero_le _) (Nat.zero_le _) (p_width hLS ) (fun r n2 h2 q => ?_)
  obtain ⟨v, rfl, ⟨fs, h51⟩, hq⟩ := q
  refine jj_s (pc' := 1099) rfl rfl ?_
  refine jj_cVP (as := []) (rest := [.int v]) (a := 51) (ci := 9) rfl ok9_width ow9_width rfl (lkL_149 nm) rfl h51 rfl rfl (fun v hv => by simp at hv) (Nat.le_of_ble_eq_true rfl) (Nat.le_of_ble_eq_true rfl) (Nat.zero_le _) (Nat.zero_le _) hq (fun r3 n3 h3 z => ?_)
  obtain ⟨rfl, hLS3⟩ := z
  refine jj_icmp_eq 1229 rfl rfl (fun _ => ?_) (fun c => absurd rfl c)
  exact jj_wk (by omega) (by omega) (K n3 h3 hLS3)
set_option maxHeartbeats 4000000 in
set_option maxRecDepth 100000 in
theorem law_33 (hLS : LSt B n h) (hi : i + 6 ≤ L) (hL : L ≤ 3072) (hc1 : 14 ≤ kc) (hc2 : 278 ≤ ks) (K : ∀ n2 h2, LSt B n2 h2 → JJ (XL B b L xs) G B (M_lawN nm) 1229 [some (.ref b), some (.ref (B + 0)), some (.ref (B + 51)), some (.int (nI i))] [] n2 h2 (kc - 14) (ks - 278) post) : JJ (XL B b L xs) G B (M_lawN nm) 1107 [some (.ref b), some (.ref (B + 0)), some (.ref (B + 51)), some (.int (nI i))] [] n h kc ks post := by
  have hobj : h 0 = some (dob B) := by obtain ⟨N, S, F, f, L, pt, len, C, sv, hL, hl, hI, hC, hM, hS⟩ := hLS; exact hC.obj
  refine jj_s (pc' := 1108) rfl rfl ?_
  refine jj_cVP (as := []) (rest := []) (a := 0) (ci := 8) rfl ok8_orders ow8_orders rfl (lkL_150 nm) rfl hobj rfl rfl (fun v hv => by simp at hv) (Nat.le_of_ble_eq_true rfl) (Nat.le_of_ble_eq_true rfl) (Nat.zero_le _) (Nat.zero_le _) (p_orders hLS ) (fun r n2 h2 q => ?_)
  obtain ⟨v, rfl, ⟨fs, h51⟩, hq⟩ := q
  refine jj_s (pc' := 1112) rfl rfl ?_
  refine jj_cVP (as := []) (rest := [.long v]) (a := 51) (ci := 9) rfl ok9_orders ow9_orders rfl (lkL_154 nm) rfl h51 rfl rfl (fun v hv => by simp at hv) (Nat.le_of_ble_eq_true rfl) (Nat.le_of_ble_eq_true rfl) (Nat.zero_le _) (Nat.zero_le _) hq (fun r3 n3 h3 z => ?_)
  obtain ⟨rfl, hLS3⟩ := z
  refine jj_lcmp rfl ?_
  refine jj_if_eq 1229 rfl rfl (fun _ => ?_) (fun c => absurd (lcmp_self v) c)
  exact jj_wk (by omega) (by omega) (K n3 h3 hLS3)
set_option maxHeartbeats 4000000 in
set_option maxRecDepth 100000 in
theorem law_34 (hLS : LSt B n h) (hi : i + 6 ≤ L) (hL : L ≤ 3072) (hc1 : 14 ≤ kc) (hc2 : 278 ≤ ks) (K : ∀ n2 h2, LSt B n2 h2 → JJ (XL B b L xs) G B (M_lawN nm) 1229 [some (.ref b), some (.ref (B + 0)), some (.ref (B + 51)), some (.int (nI i))] [] n2 h2 (kc - 14) (ks - 278) post) : JJ (XL B b L xs) G B (M_lawN nm) 1121 [some (.ref b), some (.ref (B + 0)), some (.ref (B + 51)), some (.int (nI i))] [] n h kc ks post := by
  have hobj : h 0 = some (dob B) := by obtain ⟨N, S, F, f, L, pt, len, C, sv, hL, hl, hI, hC, hM, hS⟩ := hLS; exact hC.obj
  refine jj_s (pc' := 1122) rfl rfl ?_
  refine jj_arg 1 1 rfl rfl rfl rfl rfl rfl (by omega) hL ?_
  refine jj_cVP (as := [.int (xs (i + 1))]) (rest := []) (a := 0) (ci := 8) rfl ok8_write ow8_write rfl (lkL_155 nm) rfl hobj rfl rfl (fun v hv => by simp at hv; rw [hv]; rfl) (Nat.le_of_ble_eq_true rfl) (Nat.le_of_ble_eq_true rfl) (Nat.zero_le _) (Nat.zero_le _) (p_write hLS (xs (i + 1))) (fun r n2 h2 q => ?_)
  obtain ⟨v, rfl, ⟨fs, h51⟩, hq⟩ := q
  refine jj_s (pc' := 1131) rfl rfl ?_
  refine jj_arg 1 1 rfl rfl rfl rfl rfl rfl (by omega) hL ?_
  refine jj_cVP (as := [.int (xs (i + 1))]) (rest := [.int v]) (a := 51) (ci := 9) rfl ok9_write ow9_write rfl (lkL_158 nm) rfl h51 rfl rfl (fun v hv => by simp at hv; rw [hv]; rfl) (Nat.le_of_ble_eq_true rfl) (Nat.le_of_ble_eq_true rfl) (Nat.zero_le _) (Nat.zero_le _) hq (fun r3 n3 h3 z => ?_)
  obtain ⟨rfl, hLS3⟩ := z
  refine jj_icmp_eq 1229 rfl rfl (fun _ => ?_) (fun c => absurd rfl c)
  exact jj_wk (by omega) (by omega) (K n3 h3 hLS3)
set_option maxHeartbeats 4000000 in
set_option maxRecDepth 100000 in
theorem law_35 (hLS : LSt B n h) (hi : i + 6 ≤ L) (hL : L ≤ 3072) (hc1 : 14 ≤ kc) (hc2 : 278 ≤ ks) (K : ∀ n2 h2, LSt B n2 h2 → JJ (XL B b L xs) G B (M_lawN nm) 1229 [some (.ref b), some (.ref (B + 0)), some (.ref (B + 51)), some (.int (nI i))] [] n2 h2 (kc - 14) (ks - 278) post) : JJ (XL B b L xs) G B (M_lawN nm) 1144 [some (.ref b), some (.ref (B + 0)), some (.ref (B + 51)), some (.int (nI i))] [] n h kc ks post := by
  have hobj : h 0 = some (dob B) := by obtain ⟨N, S, F, f, L, pt, len, C, sv, hL, hl, hI, hC, hM, hS⟩ := hLS; exact hC.obj
  refine jj_s (pc' := 1145) rfl rfl ?_
  refine jj_cVP (as := []) (rest := []) (a := 0) (ci := 8) rfl ok8_wipe ow8_wipe rfl (lkL_159 nm) rfl hobj rfl rfl (fun v hv => by simp at hv) (Nat.le_of_ble_eq_true rfl) (Nat.le_of_ble_eq_true rfl) (Nat.zero_le _) (Nat.zero_le _) (p_wipe hLS ) (fun r n2 h2 q => ?_)
  obtain ⟨v, rfl, ⟨fs, h51⟩, hq⟩ := q
  refine jj_s (pc' := 1149) rfl rfl ?_
  refine jj_cVP (as := []) (rest := [.int v]) (a := 51) (ci := 9) rfl ok9_wipe ow9_wipe rfl (lkL_162 nm) rfl h51 rfl rfl (fun v hv => by simp at hv) (Nat.le_of_ble_eq_true rfl) (Nat.le_of_ble_eq_true rfl) (Nat.zero_le _) (Nat.zero_le _) hq (fun r3 n3 h3 z => ?_)
  obtain ⟨rfl, hLS3⟩ := z
  refine jj_icmp_eq 1229 rfl rfl (fun _ => ?_) (fun c => absurd rfl c)
  exact jj_wk (by omega) (by omega) (K n3 h3 hLS3)
set_option maxHeartbeats 4000000 in
set_option maxRecDepth 100000 in
theorem law_36 (hLS : LSt B n h) (hi : i + 6 ≤ L) (hL : L ≤ 3072) (hc1 : 14 ≤ kc) (hc2 : 278 ≤ ks) (K : ∀ n2 h2, LSt B n2 h2 → JJ (XL B b L xs) G B (M_lawN nm) 1229 [some (.ref b), some (.ref (B + 0)), some (.ref (B + 51)), some (.int (nI i))] [] n2 h2 (kc - 14) (ks - 278) post) : JJ (XL B b L xs) G B (M_lawN nm) 1157 [some (.ref b), some (.ref (B + 0)), some (.ref (B + 51)), some (.int (nI i))] [] n h kc ks post := by
  have hobj : h 0 = some (dob B) := by obtain ⟨N, S, F, f, L, pt, len, C, sv, hL, hl, hI, hC, hM, hS⟩ := hLS; exact hC.obj
  refine jj_s (pc' := 1158) rfl rfl ?_
  refine jj_cVP (as := []) (rest := []) (a := 0) (ci := 8) rfl ok8_fault ow8_fault rfl (lkL_163 nm) rfl hobj rfl rfl (fun v hv => by simp at hv) (Nat.le_of_ble_eq_true rfl) (Nat.le_of_ble_eq_true rfl) (Nat.zero_le _) (Nat.zero_le _) (p_fault hLS ) (fun r n2 h2 q => ?_)
  obtain ⟨v, rfl, ⟨fs, h51⟩, hq⟩ := q
  refine jj_s (pc' := 1162) rfl rfl ?_
  refine jj_cVP (as := []) (rest := [.int v]) (a := 51) (ci := 9) rfl ok9_fault ow9_fault rfl (lkL_166 nm) rfl h51 rfl rfl (fun v hv => by simp at hv) (Nat.le_of_ble_eq_true rfl) (Nat.le_of_ble_eq_true rfl) (Nat.zero_le _) (Nat.zero_le _) hq (fun r3 n3 h3 z => ?_)
  obtain ⟨rfl, hLS3⟩ := z
  refine jj_icmp_eq 1229 rfl rfl (fun _ => ?_) (fun c => absurd rfl c)
  exact jj_wk (by omega) (by omega) (K n3 h3 hLS3)
set_option maxHeartbeats 4000000 in
set_option maxRecDepth 100000 in
theorem law_37 (hLS : LSt B n h) (hi : i + 6 ≤ L) (hL : L ≤ 3072) (hc1 : 14 ≤ kc) (hc2 : 278 ≤ ks) (K : ∀ n2 h2, LSt B n2 h2 → JJ (XL B b L xs) G B (M_lawN nm) 1229 [some (.ref b), some (.ref (B + 0)), some (.ref (B + 51)), some (.int (nI i))] [] n2 h2 (kc - 14) (ks - 278) post) : JJ (XL B b L xs) G B (M_lawN nm) 1170 [some (.ref b), some (.ref (B + 0)), some (.ref (B + 51)), some (.int (nI i))] [] n h kc ks post := by
  have hobj : h 0 = some (dob B) := by obtain ⟨N, S, F, f, L, pt, len, C, sv, hL, hl, hI, hC, hM, hS⟩ := hLS; exact hC.obj
  refine jj_s (pc' := 1171) rfl rfl ?_
  refine jj_cVP (as := []) (rest := []) (a := 0) (ci := 8) rfl ok8_load ow8_load rfl (lkL_167 nm) rfl hobj rfl rfl (fun v hv => by simp at hv) (Nat.le_of_ble_eq_true rfl) (Nat.le_of_ble_eq_true rfl) (Nat.zero_le _) (Nat.zero_le _) (p_load hLS ) (fun r n2 h2 q => ?_)
  obtain ⟨v, rfl, ⟨fs, h51⟩, hq⟩ := q
  refine jj_s (pc' := 1175) rfl rfl ?_
  refine jj_cVP (as := []) (rest := [.int v]) (a := 51) (ci := 9) rfl ok9_load ow9_load rfl (lkL_170 nm) rfl h51 rfl rfl (fun v hv => by simp at hv) (Nat.le_of_ble_eq_true rfl) (Nat.le_of_ble_eq_true rfl) (Nat.zero_le _) (Nat.zero_le _) hq (fun r3 n3 h3 z => ?_)
  obtain ⟨rfl, hLS3⟩ := z
  refine jj_icmp_eq 1229 rfl rfl (fun _ => ?_) (fun c => absurd rfl c)
  exact jj_wk (by omega) (by omega) (K n3 h3 hLS3)
set_option maxHeartbeats 4000000 in
set_option maxRecDepth 100000 in
theorem law_38 (hLS : LSt B n h) (hi : i + 6 ≤ L) (hL : L ≤ 3072) (hc1 : 14 ≤ kc) (hc2 : 278 ≤ ks) (K : ∀ n2 h2, LSt B n2 h2 → JJ (XL B b L xs) G B (M_lawN nm) 1229 [some (.ref b), some (.ref (B + 0)), some (.ref (B + 51)), some (.int (nI i))] [] n2 h2 (kc - 14) (ks - 278) post) : JJ (XL B b L xs) G B (M_lawN nm) 1183 [some (.ref b), some (.ref (B + 0)), some (.ref (B + 51)), some (.int (nI i))] [] n h kc ks post := by
  have hobj : h 0 = some (dob B) := by obtain ⟨N, S, F, f, L, pt, len, C, sv, hL, hl, hI, hC, hM, hS⟩ := hLS; exact hC.obj
  refine jj_s (pc' := 1184) rfl rfl ?_
  refine jj_arg 1 1 rfl rfl rfl rfl rfl rfl (by omega) hL ?_
  refine jj_cVP (as := [.int (xs (i + 1))]) (rest := []) (a := 0) (ci := 8) rfl ok8_save ow8_save rfl (lkL_171 nm) rfl hobj rfl rfl (fun v hv => by simp at hv; rw [hv]; rfl) (Nat.le_of_ble_eq_true rfl) (Nat.le_of_ble_eq_true rfl) (by omega) (by omega) (p_save hLS (xs (i + 1))) (fun r n2 h2 q => ?_)
  obtain ⟨v, rfl, ⟨fs, h51⟩, hq⟩ := q
  refine jj_s (pc' := 1193) rfl rfl ?_
  refine jj_arg 1 1 rfl rfl rfl rfl rfl rfl (by omega) hL ?_
  refine jj_cVP (as := [.int (xs (i + 1))]) (rest := [.int v]) (a := 51) (ci := 9) rfl ok9_save ow9_save rfl (lkL_174 nm) rfl h51 rfl rfl (fun v hv => by simp at hv; rw [hv]; rfl) (Nat.le_of_ble_eq_true rfl) (Nat.le_of_ble_eq_true rfl) (Nat.zero_le _) (Nat.zero_le _) hq (fun r3 n3 h3 z => ?_)
  obtain ⟨rfl, hLS3⟩ := z
  refine jj_icmp_eq 1229 rfl rfl (fun _ => ?_) (fun c => absurd rfl c)
  exact jj_wk (by omega) (by omega) (K n3 h3 hLS3)
set_option maxHeartbeats 4000000 in
set_option maxRecDepth 100000 in
theorem law_39 (hLS : LSt B n h) (hi : i + 6 ≤ L) (hL : L ≤ 3072) (hc1 : 14 ≤ kc) (hc2 : 278 ≤ ks) (K : ∀ n2 h2, LSt B n2 h2 → JJ (XL B b L xs) G B (M_lawN nm) 1229 [some (.ref b), some (.ref (B + 0)), some (.ref (B + 51)), some (.int (nI i))] [] n2 h2 (kc - 14) (ks - 278) post) : JJ (XL B b L xs) G B (M_lawN nm) 1206 [some (.ref b), some (.ref (B + 0)), some (.ref (B + 51)), some (.int (nI i))] [] n h kc ks post := by
  have hobj : h 0 = some (dob B) := by obtain ⟨N, S, F, f, L, pt, len, C, sv, hL, hl, hI, hC, hM, hS⟩ := hLS; exact hC.obj
  refine jj_s (pc' := 1207) rfl rfl ?_
  refine jj_arg 1 1 rfl rfl rfl rfl rfl rfl (by omega) hL ?_
  refine jj_cVP (as := [.int (xs (i + 1))]) (rest := []) (a := 0) (ci := 8) rfl ok8_restore ow8_restore rfl (lkL_175 nm) rfl hobj rfl rfl (fun v hv => by simp at hv; rw [hv]; rfl) (Nat.le_of_ble_eq_true rfl) (Nat.le_of_ble_eq_true rfl) (Nat.zero_le _) (Nat.zero_le _) (p_restore hLS (xs (i + 1))) (fun r n2 h2 q => ?_)
  obtain ⟨v, rfl, ⟨fs, h51⟩, hq⟩ := q
  refine jj_s (pc' := 1216) rfl rfl ?_
  refine jj_arg 1 1 rfl rfl rfl rfl rfl rfl (by omega) hL ?_
  refine jj_cVP (as := [.int (xs (i + 1))]) (rest := [.int v]) (a := 51) (ci := 9) rfl ok9_restore ow9_restore rfl (lkL_178 nm) rfl h51 rfl rfl (fun v hv => by simp at hv; rw [hv]; rfl) (Nat.le_of_ble_eq_true rfl) (Nat.le_of_ble_eq_true rfl) (Nat.zero_le _) (Nat.zero_le _) hq (fun r3 n3 h3 z => ?_)
  obtain ⟨rfl, hLS3⟩ := z
  refine jj_icmp_eq 1229 rfl rfl (fun _ => ?_) (fun c => absurd rfl c)
  exact jj_wk (by omega) (by omega) (K n3 h3 hLS3)
end
