/-! the law: its forty calls -/
section
variable {nm : String} {G : GC} {B b L : Nat} {xs : Nat → Int32} {i n : Nat} {h : HT} {kc ks : Nat} {post : Option Value → Nat → HT → Prop}
set_option maxHeartbeats 4000000 in
set_option maxRecDepth 100000 in
theorem law_0 (hLS : LSt B n h) (hi : i + 6 ≤ L) (hL : L ≤ 3072) (hc1 : 14 ≤ kc) (hc2 : 278 ≤ ks) (K : ∀ n2 h2, LSt B n2 h2 → JJ (XL B b L xs) G B (M_lawN nm) 1229 [some (.ref b), some (.ref (B + 0)), some (.ref (B + 51)), some (.int (nI i))] [] n2 h2 (kc - 14) (ks - 278) post) : JJ (XL B b L xs) G B (M_lawN nm) 208 [some (.ref b), some (.ref (B + 0)), some (.ref (B + 51)), some (.int (nI i))] [] n h kc ks post := by
  have hobj : h 0 = some (dob B) := by obtain ⟨N, S, F, f, L, pt, len, C, sv, hL, hl, hI, hC, hM, hS⟩ := hLS; exact hC.obj
  refine jj_s (pc' := 209) rfl rfl ?_
  refine jj_arg 1 1 rfl rfl rfl rfl rfl rfl (by omega) hL ?_
  refine jj_arg 2 2 rfl rfl rfl rfl rfl rfl (by omega) hL ?_
  refine jj_arg 3 3 rfl rfl rfl rfl rfl rfl (by omega) hL ?_
  refine jj_arg 4 4 rfl rfl rfl rfl rfl rfl (by omega) hL ?_
  refine jj_arg 5 5 rfl rfl rfl rfl rfl rfl (by omega) hL ?_
  refine jj_cVP (as := [.int (xs (i + 1)), .int (xs (i + 2)), .int (xs (i + 3)), .int (xs (i + 4)), .int (xs (i + 5))]) (rest := []) (a := 0) (ci := 8) rfl ok8_add ow8_add rfl (lkL_13 nm) rfl hobj rfl rfl (fun v hv => by simp at hv; rcases hv with rfl | rfl | rfl | rfl | rfl <;> rfl) (Nat.le_of_ble_eq_true rfl) (Nat.le_of_ble_eq_true rfl) (Nat.zero_le _) (Nat.zero_le _) (p_add hLS (xs (i + 1)) (xs (i + 2)) (xs (i + 3)) (xs (i + 4)) (xs (i + 5))) (fun r n2 h2 q => ?_)
  obtain ⟨v, rfl, ⟨fs, h51⟩, hq⟩ := q
  refine jj_s (pc' := 238) rfl rfl ?_
  refine jj_arg 1 1 rfl rfl rfl rfl rfl rfl (by omega) hL ?_
  refine jj_arg 2 2 rfl rfl rfl rfl rfl rfl (by omega) hL ?_
  refine jj_arg 3 3 rfl rfl rfl rfl rfl rfl (by omega) hL ?_
  refine jj_arg 4 4 rfl rfl rfl rfl rfl rfl (by omega) hL ?_
  refine jj_arg 5 5 rfl rfl rfl rfl rfl rfl (by omega) hL ?_
  refine jj_cVP (as := [.int (xs (i + 1)), .int (xs (i + 2)), .int (xs (i + 3)), .int (xs (i + 4)), .int (xs (i + 5))]) (rest := [.int v]) (a := 51) (ci := 9) rfl ok9_add ow9_add rfl (lkL_17 nm) rfl h51 rfl rfl (fun v hv => by simp at hv; rcases hv with rfl | rfl | rfl | rfl | rfl <;> rfl) (Nat.le_of_ble_eq_true rfl) (Nat.le_of_ble_eq_true rfl) (Nat.zero_le _) (Nat.zero_le _) hq (fun r3 n3 h3 z => ?_)
  obtain ⟨rfl, hLS3⟩ := z
  refine jj_icmp_eq 1229 rfl rfl (fun _ => ?_) (fun c => absurd rfl c)
  exact jj_wk (by omega) (by omega) (K n3 h3 hLS3)
set_option maxHeartbeats 4000000 in
set_option maxRecDepth 100000 in
theorem law_1 (hLS : LSt B n h) (hi : i + 6 ≤ L) (hL : L ≤ 3072) (hc1 : 14 ≤ kc) (hc2 : 278 ≤ ks) (K : ∀ n2 h2, LSt B n2 h2 → JJ (XL B b L xs) G B (M_lawN nm) 1229 [some (.ref b), some (.ref (B + 0)), some (.ref (B + 51)), some (.int (nI i))] [] n2 h2 (kc - 14) (ks - 278) post) : JJ (XL B b L xs) G B (M_lawN nm) 271 [some (.ref b), some (.ref (B + 0)), some (.ref (B + 51)), some (.int (nI i))] [] n h kc ks post := by
  have hobj : h 0 = some (dob B) := by obtain ⟨N, S, F, f, L, pt, len, C, sv, hL, hl, hI, hC, hM, hS⟩ := hLS; exact hC.obj
  refine jj_s (pc' := 272) rfl rfl ?_
  refine jj_arg 1 1 rfl rfl rfl rfl rfl rfl (by omega) hL ?_
  refine jj_arg 2 2 rfl rfl rfl rfl rfl rfl (by omega) hL ?_
  refine jj_arg 3 3 rfl rfl rfl rfl rfl rfl (by omega) hL ?_
  refine jj_cVP (as := [.int (xs (i + 1)), .int (xs (i + 2)), .int (xs (i + 3))]) (rest := []) (a := 0) (ci := 8) rfl ok8_link ow8_link rfl (lkL_18 nm) rfl hobj rfl rfl (fun v hv => by simp at hv; rcases hv with rfl | rfl | rfl <;> rfl) (Nat.le_of_ble_eq_true rfl) (Nat.le_of_ble_eq_true rfl) (Nat.zero_le _) (Nat.zero_le _) (p_link hLS (xs (i + 1)) (xs (i + 2)) (xs (i + 3))) (fun r n2 h2 q => ?_)
  obtain ⟨v, rfl, ⟨fs, h51⟩, hq⟩ := q
  refine jj_s (pc' := 291) rfl rfl ?_
  refine jj_arg 1 1 rfl rfl rfl rfl rfl rfl (by omega) hL ?_
  refine jj_arg 2 2 rfl rfl rfl rfl rfl rfl (by omega) hL ?_
  refine jj_arg 3 3 rfl rfl rfl rfl rfl rfl (by omega) hL ?_
  refine jj_cVP (as := [.int (xs (i + 1)), .int (xs (i + 2)), .int (xs (i + 3))]) (rest := [.int v]) (a := 51) (ci := 9) rfl ok9_link ow9_link rfl (lkL_22 nm) rfl h51 rfl rfl (fun v hv => by simp at hv; rcases hv with rfl | rfl | rfl <;> rfl) (Nat.le_of_ble_eq_true rfl) (Nat.le_of_ble_eq_true rfl) (Nat.zero_le _) (Nat.zero_le _) hq (fun r3 n3 h3 z => ?_)
  obtain ⟨rfl, hLS3⟩ := z
  refine jj_icmp_eq 1229 rfl rfl (fun _ => ?_) (fun c => absurd rfl c)
  exact jj_wk (by omega) (by omega) (K n3 h3 hLS3)
set_option maxHeartbeats 4000000 in
set_option maxRecDepth 100000 in
theorem law_2 (hLS : LSt B n h) (hi : i + 6 ≤ L) (hL : L ≤ 3072) (hc1 : 14 ≤ kc) (hc2 : 278 ≤ ks) (K : ∀ n2 h2, LSt B n2 h2 → JJ (XL B b L xs) G B (M_lawN nm) 1229 [some (.ref b), some (.ref (B + 0)), some (.ref (B + 51)), some (.int (nI i))] [] n2 h2 (kc - 14) (ks - 278) post) : JJ (XL B b L xs) G B (M_lawN nm) 314 [some (.ref b), some (.ref (B + 0)), some (.ref (B + 51)), some (.int (nI i))] [] n h kc ks post := by
  have hobj : h 0 = some (dob B) := by obtain ⟨N, S, F, f, L, pt, len, C, sv, hL, hl, hI, hC, hM, hS⟩ := hLS; exact hC.obj
  refine jj_s (pc' := 315) rfl rfl ?_
  refine jj_arg 1 1 rfl rfl rfl rfl rfl rfl (by omega) hL ?_
  refine jj_cVP (as := [.int (xs (i + 1))]) (rest := []) (a := 0) (ci := 8) rfl ok8_witness ow8_witness rfl (lkL_23 nm) rfl hobj rfl rfl (fun v hv => by simp at hv; rw [hv]; rfl) (Nat.le_of_ble_eq_true rfl) (Nat.le_of_ble_eq_true rfl) (Nat.zero_le _) (Nat.zero_le _) (p_witness hLS (xs (i + 1))) (fun r n2 h2 q => ?_)
  obtain ⟨v, rfl, ⟨fs, h51⟩, hq⟩ := q
  refine jj_s (pc' := 324) rfl rfl ?_
  refine jj_arg 1 1 rfl rfl rfl rfl rfl rfl (by omega) hL ?_
  refine jj_cVP (as := [.int (xs (i + 1))]) (rest := [.int v]) (a := 51) (ci := 9) rfl ok9_witness ow9_witness rfl (lkL_27 nm) rfl h51 rfl rfl (fun v hv => by simp at hv; rw [hv]; rfl) (Nat.le_of_ble_eq_true rfl) (Nat.le_of_ble_eq_true rfl) (Nat.zero_le _) (Nat.zero_le _) hq (fun r3 n3 h3 z => ?_)
  obtain ⟨rfl, hLS3⟩ := z
  refine jj_icmp_eq 1229 rfl rfl (fun _ => ?_) (fun c => absurd rfl c)
  exact jj_wk (by omega) (by omega) (K n3 h3 hLS3)
set_option maxHeartbeats 4000000 in
set_option maxRecDepth 100000 in
theorem law_3 (hLS : LSt B n h) (hi : i + 6 ≤ L) (hL : L ≤ 3072) (hc1 : 14 ≤ kc) (hc2 : 278 ≤ ks) (K : ∀ n2 h2, LSt B n2 h2 → JJ (XL B b L xs) G B (M_lawN nm) 1229 [some (.ref b), some (.ref (B + 0)), some (.ref (B + 51)), some (.int (nI i))] [] n2 h2 (kc - 14) (ks - 278) post) : JJ (XL B b L xs) G B (M_lawN nm) 337 [some (.ref b), some (.ref (B + 0)), some (.ref (B + 51)), some (.int (nI i))] [] n h kc ks post := by
  have hobj : h 0 = some (dob B) := by obtain ⟨N, S, F, f, L, pt, len, C, sv, hL, hl, hI, hC, hM, hS⟩ := hLS; exact hC.obj
  refine jj_s (pc' := 338) rfl rfl ?_
  refine jj_arg 1 1 rfl rfl rfl rfl rfl rfl (by omega) hL ?_
  refine jj_arg 2 2 rfl rfl rfl rfl rfl rfl (by omega) hL ?_
  refine jj_cVP (as := [.int (xs (i + 1)), .int (xs (i + 2))]) (rest := []) (a := 0) (ci := 8) rfl ok8_unlink ow8_unlink rfl (lkL_28 nm) rfl hobj rfl rfl (fun v hv => by simp at hv; rcases hv with rfl | rfl <;> rfl) (Nat.le_of_ble_eq_true rfl) (Nat.le_of_ble_eq_true rfl) (Nat.zero_le _) (Nat.zero_le _) (p_unlink hLS (xs (i + 1)) (xs (i + 2))) (fun r n2 h2 q => ?_)
  obtain ⟨v, rfl, ⟨fs, h51⟩, hq⟩ := q
  refine jj_s (pc' := 352) rfl rfl ?_
  refine jj_arg 1 1 rfl rfl rfl rfl rfl rfl (by omega) hL ?_
  refine jj_arg 2 2 rfl rfl rfl rfl rfl rfl (by omega) hL ?_
  refine jj_cVP (as := [.int (xs (i + 1)), .int (xs (i + 2))]) (rest := [.int v]) (a := 51) (ci := 9) rfl ok9_unlink ow9_unlink rfl (lkL_32 nm) rfl h51 rfl rfl (fun v hv => by simp at hv; rcases hv with rfl | rfl <;> rfl) (Nat.le_of_ble_eq_true rfl) (Nat.le_of_ble_eq_true rfl) (Nat.zero_le _) (Nat.zero_le _) hq (fun r3 n3 h3 z => ?_)
  obtain ⟨rfl, hLS3⟩ := z
  refine jj_icmp_eq 1229 rfl rfl (fun _ => ?_) (fun c => absurd rfl c)
  exact jj_wk (by omega) (by omega) (K n3 h3 hLS3)
set_option maxHeartbeats 4000000 in
set_option maxRecDepth 100000 in
theorem law_4 (hLS : LSt B n h) (hi : i + 6 ≤ L) (hL : L ≤ 3072) (hc1 : 14 ≤ kc) (hc2 : 278 ≤ ks) (K : ∀ n2 h2, LSt B n2 h2 → JJ (XL B b L xs) G B (M_lawN nm) 1229 [some (.ref b), some (.ref (B + 0)), some (.ref (B + 51)), some (.int (nI i))] [] n2 h2 (kc - 14) (ks - 278) post) : JJ (XL B b L xs) G B (M_lawN nm) 370 [some (.ref b), some (.ref (B + 0)), some (.ref (B + 51)), some (.int (nI i))] [] n h kc ks post := by
  have hobj : h 0 = some (dob B) := by obtain ⟨N, S, F, f, L, pt, len, C, sv, hL, hl, hI, hC, hM, hS⟩ := hLS; exact hC.obj
  refine jj_s (pc' := 371) rfl rfl ?_
  refine jj_arg 1 1 rfl rfl rfl rfl rfl rfl (by omega) hL ?_
  refine jj_arg 2 2 rfl rfl rfl rfl rfl rfl (by omega) hL ?_
  refine jj_cVP (as := [.int (xs (i + 1)), .int (xs (i + 2))]) (rest := []) (a := 0) (ci := 8) rfl ok8_setPriority ow8_setPriority rfl (lkL_33 nm) rfl hobj rfl rfl (fun v hv => by simp at hv; rcases hv with rfl | rfl <;> rfl) (Nat.le_of_ble_eq_true rfl) (Nat.le_of_ble_eq_true rfl) (Nat.zero_le _) (Nat.zero_le _) (p_setPriority hLS (xs (i + 1)) (xs (i + 2))) (fun r n2 h2 q => ?_)
  obtain ⟨v, rfl, ⟨fs, h51⟩, hq⟩ := q
  refine jj_s (pc' := 385) rfl rfl ?_
  refine jj_arg 1 1 rfl rfl rfl rfl rfl rfl (by omega) hL ?_
  refine jj_arg 2 2 rfl rfl rfl rfl rfl rfl (by omega) hL ?_
  refine jj_cVP (as := [.int (xs (i + 1)), .int (xs (i + 2))]) (rest := [.int v]) (a := 51) (ci := 9) rfl ok9_setPriority ow9_setPriority rfl (lkL_36 nm) rfl h51 rfl rfl (fun v hv => by simp at hv; rcases hv with rfl | rfl <;> rfl) (Nat.le_of_ble_eq_true rfl) (Nat.le_of_ble_eq_true rfl) (Nat.zero_le _) (Nat.zero_le _) hq (fun r3 n3 h3 z => ?_)
  obtain ⟨rfl, hLS3⟩ := z
  refine jj_icmp_eq 1229 rfl rfl (fun _ => ?_) (fun c => absurd rfl c)
  exact jj_wk (by omega) (by omega) (K n3 h3 hLS3)
set_option maxHeartbeats 4000000 in
set_option maxRecDepth 100000 in
theorem law_5 (hLS : LSt B n h) (hi : i + 6 ≤ L) (hL : L ≤ 3072) (hc1 : 14 ≤ kc) (hc2 : 278 ≤ ks) (K : ∀ n2 h2, LSt B n2 h2 → JJ (XL B b L xs) G B (M_lawN nm) 1229 [some (.ref b), some (.ref (B + 0)), some (.ref (B + 51)), some (.int (nI i))] [] n2 h2 (kc - 14) (ks - 278) post) : JJ (XL B b L xs) G B (M_lawN nm) 403 [some (.ref b), some (.ref (B + 0)), some (.ref (B + 51)), some (.int (nI i))] [] n h kc ks post := by
  have hobj : h 0 = some (dob B) := by obtain ⟨N, S, F, f, L, pt, len, C, sv, hL, hl, hI, hC, hM, hS⟩ := hLS; exact hC.obj
  refine jj_s (pc' := 404) rfl rfl ?_
  refine jj_arg 1 1 rfl rfl rfl rfl rfl rfl (by omega) hL ?_
  refine jj_cVP (as := [.int (xs (i + 1))]) (rest := []) (a := 0) (ci := 8) rfl ok8_setPolicy ow8_setPolicy rfl (lkL_37 nm) rfl hobj rfl rfl (fun v hv => by simp at hv; rw [hv]; rfl) (Nat.le_of_ble_eq_true rfl) (Nat.le_of_ble_eq_true rfl) (Nat.zero_le _) (Nat.zero_le _) (p_setPolicy hLS (xs (i + 1))) (fun r n2 h2 q => ?_)
  obtain ⟨v, rfl, ⟨fs, h51⟩, hq⟩ := q
  refine jj_s (pc' := 413) rfl rfl ?_
  refine jj_arg 1 1 rfl rfl rfl rfl rfl rfl (by omega) hL ?_
  refine jj_cVP (as := [.int (xs (i + 1))]) (rest := [.int v]) (a := 51) (ci := 9) rfl ok9_setPolicy ow9_setPolicy rfl (lkL_40 nm) rfl h51 rfl rfl (fun v hv => by simp at hv; rw [hv]; rfl) (Nat.le_of_ble_eq_true rfl) (Nat.le_of_ble_eq_true rfl) (Nat.zero_le _) (Nat.zero_le _) hq (fun r3 n3 h3 z => ?_)
  obtain ⟨rfl, hLS3⟩ := z
  refine jj_icmp_eq 1229 rfl rfl (fun _ => ?_) (fun c => absurd rfl c)
  exact jj_wk (by omega) (by omega) (K n3 h3 hLS3)
set_option maxHeartbeats 4000000 in
set_option maxRecDepth 100000 in
theorem law_6 (hLS : LSt B n h) (hi : i + 6 ≤ L) (hL : L ≤ 3072) (hc1 : 14 ≤ kc) (hc2 : 278 ≤ ks) (K : ∀ n2 h2, LSt B n2 h2 → JJ (XL B b L xs) G B (M_lawN nm) 1229 [some (.ref b), some (.ref (B + 0)), some (.ref (B + 51)), some (.int (nI i))] [] n2 h2 (kc - 14) (ks - 278) post) : JJ (XL B b L xs) G B (M_lawN nm) 426 [some (.ref b), some (.ref (B + 0)), some (.ref (B + 51)), some (.int (nI i))] [] n h kc ks post := by
  have hobj : h 0 = some (dob B) := by obtain ⟨N, S, F, f, L, pt, len, C, sv, hL, hl, hI, hC, hM, hS⟩ := hLS; exact hC.obj
  refine jj_s (pc' := 427) rfl rfl ?_
  refine jj_arg 1 1 rfl rfl rfl rfl rfl rfl (by omega) hL ?_
  refine jj_cVP (as := [.int (xs (i + 1))]) (rest := []) (a := 0) (ci := 8) rfl ok8_setGroupLimit ow8_setGroupLimit rfl (lkL_41 nm) rfl hobj rfl rfl (fun v hv => by simp at hv; rw [hv]; rfl) (Nat.le_of_ble_eq_true rfl) (Nat.le_of_ble_eq_true rfl) (Nat.zero_le _) (Nat.zero_le _) (p_setGroupLimit hLS (xs (i + 1))) (fun r n2 h2 q => ?_)
  obtain ⟨v, rfl, ⟨fs, h51⟩, hq⟩ := q
  refine jj_s (pc' := 436) rfl rfl ?_
  refine jj_arg 1 1 rfl rfl rfl rfl rfl rfl (by omega) hL ?_
  refine jj_cVP (as := [.int (xs (i + 1))]) (rest := [.int v]) (a := 51) (ci := 9) rfl ok9_setGroupLimit ow9_setGroupLimit rfl (lkL_44 nm) rfl h51 rfl rfl (fun v hv => by simp at hv; rw [hv]; rfl) (Nat.le_of_ble_eq_true rfl) (Nat.le_of_ble_eq_true rfl) (Nat.zero_le _) (Nat.zero_le _) hq (fun r3 n3 h3 z => ?_)
  obtain ⟨rfl, hLS3⟩ := z
  refine jj_icmp_eq 1229 rfl rfl (fun _ => ?_) (fun c => absurd rfl c)
  exact jj_wk (by omega) (by omega) (K n3 h3 hLS3)
set_option maxHeartbeats 4000000 in
set_option maxRecDepth 100000 in
theorem law_7 (hLS : LSt B n h) (hi : i + 6 ≤ L) (hL : L ≤ 3072) (hc1 : 14 ≤ kc) (hc2 : 278 ≤ ks) (K : ∀ n2 h2, LSt B n2 h2 → JJ (XL B b L xs) G B (M_lawN nm) 1229 [some (.ref b), some (.ref (B + 0)), some (.ref (B + 51)), some (.int (nI i))] [] n2 h2 (kc - 14) (ks - 278) post) : JJ (XL B b L xs) G B (M_lawN nm) 449 [some (.ref b), some (.ref (B + 0)), some (.ref (B + 51)), some (.int (nI i))] [] n h kc ks post := by
  have hobj : h 0 = some (dob B) := by obtain ⟨N, S, F, f, L, pt, len, C, sv, hL, hl, hI, hC, hM, hS⟩ := hLS; exact hC.obj
  refine jj_s (pc' := 450) rfl rfl ?_
  refine jj_cVP (as := []) (rest := []) (a := 0) (ci := 8) rfl ok8_clear ow8_clear rfl (lkL_45 nm) rfl hobj rfl rfl (fun v hv => by simp at hv) (Nat.le_of_ble_eq_true rfl) (Nat.le_of_ble_eq_true rfl) (Nat.zero_le _) (Nat.zero_le _) (p_clear hLS ) (fun r n2 h2 q => ?_)
  obtain ⟨v, rfl, ⟨fs, h51⟩, hq⟩ := q
  refine jj_s (pc' := 454) rfl rfl ?_
  refine jj_cVP (as := []) (rest := [.int v]) (a := 51) (ci := 9) rfl ok9_clear ow9_clear rfl (lkL_49 nm) rfl h51 rfl rfl (fun v hv => by simp at hv) (Nat.le_of_ble_eq_true rfl) (Nat.le_of_ble_eq_true rfl) (Nat.zero_le _) (Nat.zero_le _) hq (fun r3 n3 h3 z => ?_)
  obtain ⟨rfl, hLS3⟩ := z
  refine jj_icmp_eq 1229 rfl rfl (fun _ => ?_) (fun c => absurd rfl c)
  exact jj_wk (by omega) (by omega) (K n3 h3 hLS3)
set_option maxHeartbeats 4000000 in
set_option maxRecDepth 100000 in
theorem law_8 (hLS : LSt B n h) (hi : i + 6 ≤ L) (hL : L ≤ 3072) (hc1 : 14 ≤ kc) (hc2 : 278 ≤ ks) (K : ∀ n2 h2, LSt B n2 h2 → JJ (XL B b L xs) G B (M_lawN nm) 1229 [some (.ref b), some (.ref (B + 0)), some (.ref (B + 51)), some (.int (nI i))] [] n2 h2 (kc - 14) (ks - 278) post) : JJ (XL B b L xs) G B (M_lawN nm) 462 [some (.ref b), some (.ref (B + 0)), some (.ref (B + 51)), some (.int (nI i))] [] n h kc ks post := by
  have hobj : h 0 = some (dob B) := by obtain ⟨N, S, F, f, L, pt, len, C, sv, hL, hl, hI, hC, hM, hS⟩ := hLS; exact hC.obj
  refine jj_s (pc' := 463) rfl rfl ?_
  refine jj_arg 1 1 rfl rfl rfl rfl rfl rfl (by omega) hL ?_
  refine jj_cVP (as := [.int (xs (i + 1))]) (rest := []) (a := 0) (ci := 8) rfl ok8_receive ow8_receive rfl (lkL_50 nm) rfl hobj rfl rfl (fun v hv => by simp at hv; rw [hv]; rfl) (Nat.le_of_ble_eq_true rfl) (Nat.le_of_ble_eq_true rfl) (Nat.zero_le _) (Nat.zero_le _) (p_receive hLS (xs (i + 1))) (fun r n2 h2 q => ?_)
  obtain ⟨v, rfl, ⟨fs, h51⟩, hq⟩ := q
  refine jj_s (pc' := 472) rfl rfl ?_
  refine jj_arg 1 1 rfl rfl rfl rfl rfl rfl (by omega) hL ?_
  refine jj_cVP (as := [.int (xs (i + 1))]) (rest := [.int v]) (a := 51) (ci := 9) rfl ok9_receive ow9_receive rfl (lkL_53 nm) rfl h51 rfl rfl (fun v hv => by simp at hv; rw [hv]; rfl) (Nat.le_of_ble_eq_true rfl) (Nat.le_of_ble_eq_true rfl) (Nat.zero_le _) (Nat.zero_le _) hq (fun r3 n3 h3 z => ?_)
  obtain ⟨rfl, hLS3⟩ := z
  refine jj_icmp_eq 1229 rfl rfl (fun _ => ?_) (fun c => absurd rfl c)
  exact jj_wk (by omega) (by omega) (K n3 h3 hLS3)
set_option maxHeartbeats 4000000 in
set_option maxRecDepth 100000 in
theorem law_9 (hLS : LSt B n h) (hi : i + 6 ≤ L) (hL : L ≤ 3072) (hc1 : 14 ≤ kc) (hc2 : 278 ≤ ks) (K : ∀ n2 h2, LSt B n2 h2 → JJ (XL B b L xs) G B (M_lawN nm) 1229 [some (.ref b), some (.ref (B + 0)), some (.ref (B + 51)), some (.int (nI i))] [] n2 h2 (kc - 14) (ks - 278) post) : JJ (XL B b L xs) G B (M_lawN nm) 485 [some (.ref b), some (.ref (B + 0)), some (.ref (B + 51)), some (.int (nI i))] [] n h kc ks post := by
  have hobj : h 0 = some (dob B) := by obtain ⟨N, S, F, f, L, pt, len, C, sv, hL, hl, hI, hC, hM, hS⟩ := hLS; exact hC.obj
  refine jj_s (pc' := 486) rfl rfl ?_
  refine jj_arg 1 1 rfl rfl rfl rfl rfl rfl (by omega) hL ?_
  refine jj_cVP (as := [.int (xs (i + 1))]) (rest := []) (a := 0) (ci := 8) rfl ok8_receipt ow8_receipt rfl (lkL_54 nm) rfl hobj rfl rfl (fun v hv => by simp at hv; rw [hv]; rfl) (Nat.le_of_ble_eq_true rfl) (Nat.le_of_ble_eq_true rfl) (Nat.zero_le _) (Nat.zero_le _) (p_receipt hLS (xs (i + 1))) (fun r n2 h2 q => ?_)
  obtain ⟨v, rfl, ⟨fs, h51⟩, hq⟩ := q
  refine jj_s (pc' := 495) rfl rfl ?_
  refine jj_arg 1 1 rfl rfl rfl rfl rfl rfl (by omega) hL ?_
  refine jj_cVP (as := [.int (xs (i + 1))]) (rest := [.int v]) (a := 51) (ci := 9) rfl ok9_receipt ow9_receipt rfl (lkL_57 nm) rfl h51 rfl rfl (fun v hv => by simp at hv; rw [hv]; rfl) (Nat.le_of_ble_eq_true rfl) (Nat.le_of_ble_eq_true rfl) (Nat.zero_le _) (Nat.zero_le _) hq (fun r3 n3 h3 z => ?_)
  obtain ⟨rfl, hLS3⟩ := z
  refine jj_icmp_eq 1229 rfl rfl (fun _ => ?_) (fun c => absurd rfl c)
  exact jj_wk (by omega) (by omega) (K n3 h3 hLS3)
set_option maxHeartbeats 4000000 in
set_option maxRecDepth 100000 in
theorem law_10 (hLS : LSt B n h) (hi : i + 6 ≤ L) (hL : L ≤ 3072) (hc1 : 14 ≤ kc) (hc2 : 278 ≤ ks) (K : ∀ n2 h2, LSt B n2 h2 → JJ (XL B b L xs) G B (M_lawN nm) 1229 [some (.ref b), some (.ref (B + 0)), some (.ref (B + 51)), some (.int (nI i))] [] n2 h2 (kc - 14) (ks - 278) post) : JJ (XL B b L xs) G B (M_lawN nm) 508 [some (.ref b), some (.ref (B + 0)), some (.ref (B + 51)), some (.int (nI i))] [] n h kc ks post := by
  have hobj : h 0 = some (dob B) := by obtain ⟨N, S, F, f, L, pt, len, C, sv, hL, hl, hI, hC, hM, hS⟩ := hLS; exact hC.obj
  refine jj_s (pc' := 509) rfl rfl ?_
  refine jj_arg 1 1 rfl rfl rfl rfl rfl rfl (by omega) hL ?_
  refine jj_arg 2 2 rfl rfl rfl rfl rfl rfl (by omega) hL ?_
  refine jj_cVP (as := [.int (xs (i + 1)), .int (xs (i + 2))]) (rest := []) (a := 0) (ci := 8) rfl ok8_finish ow8_finish rfl (lkL_58 nm) rfl hobj rfl rfl (fun v hv => by simp at hv; rcases hv with rfl | rfl <;> rfl) (Nat.le_of_ble_eq_true rfl) (Nat.le_of_ble_eq_true rfl) (Nat.zero_le _) (Nat.zero_le _) (p_finish hLS (xs (i + 1)) (xs (i + 2))) (fun r n2 h2 q => ?_)
  obtain ⟨v, rfl, ⟨fs, h51⟩, hq⟩ := q
  refine jj_s (pc' := 523) rfl rfl ?_
  refine jj_arg 1 1 rfl rfl rfl rfl rfl rfl (by omega) hL ?_
  refine jj_arg 2 2 rfl rfl rfl rfl rfl rfl (by omega) hL ?_
  refine jj_cVP (as := [.int (xs (i + 1)), .int (xs (i + 2))]) (rest := [.int v]) (a := 51) (ci := 9) rfl ok9_finish ow9_finish rfl (lkL_61 nm) rfl h51 rfl rfl (fun v hv => by simp at hv; rcases hv with rfl | rfl <;> rfl) (Nat.le_of_ble_eq_true rfl) (Nat.le_of_ble_eq_true rfl) (Nat.zero_le _) (Nat.zero_le _) hq (fun r3 n3 h3 z => ?_)
  obtain ⟨rfl, hLS3⟩ := z
  refine jj_icmp_eq 1229 rfl rfl (fun _ => ?_) (fun c => absurd rfl c)
  exact jj_wk (by omega) (by omega) (K n3 h3 hLS3)
set_option maxHeartbeats 4000000 in
set_option maxRecDepth 100000 in
theorem law_11 (hLS : LSt B n h) (hi : i + 6 ≤ L) (hL : L ≤ 3072) (hc1 : 14 ≤ kc) (hc2 : 278 ≤ ks) (K : ∀ n2 h2, LSt B n2 h2 → JJ (XL B b L xs) G B (M_lawN nm) 1229 [some (.ref b), some (.ref (B + 0)), some (.ref (B + 51)), some (.int (nI i))] [] n2 h2 (kc - 14) (ks - 278) post) : JJ (XL B b L xs) G B (M_lawN nm) 541 [some (.ref b), some (.ref (B + 0)), some (.ref (B + 51)), some (.int (nI i))] [] n h kc ks post := by
  have hobj : h 0 = some (dob B) := by obtain ⟨N, S, F, f, L, pt, len, C, sv, hL, hl, hI, hC, hM, hS⟩ := hLS; exact hC.obj
  refine jj_s (pc' := 542) rfl rfl ?_
  refine jj_arg 1 1 rfl rfl rfl rfl rfl rfl (by omega) hL ?_
  refine jj_arg 2 2 rfl rfl rfl rfl rfl rfl (by omega) hL ?_
  refine jj_arg 3 3 rfl rfl rfl rfl rfl rfl (by omega) hL ?_
  refine jj_cVP (as := [.int (xs (i + 1)), .int (xs (i + 2)), .int (xs (i + 3))]) (rest := []) (a := 0) (ci := 8) rfl ok8_giveBack ow8_giveBack rfl (lkL_62 nm) rfl hobj rfl rfl (fun v hv => by simp at hv; rcases hv with rfl | rfl | rfl <;> rfl) (Nat.le_of_ble_eq_true rfl) (Nat.le_of_ble_eq_true rfl) (Nat.zero_le _) (Nat.zero_le _) (p_giveBack hLS (xs (i + 1)) (xs (i + 2)) (xs (i + 3))) (fun r n2 h2 q => ?_)
  obtain ⟨v, rfl, ⟨fs, h51⟩, hq⟩ := q
  refine jj_s (pc' := 561) rfl rfl ?_
  refine jj_arg 1 1 rfl rfl rfl rfl rfl rfl (by omega) hL ?_
  refine jj_arg 2 2 rfl rfl rfl rfl rfl rfl (by omega) hL ?_
  refine jj_arg 3 3 rfl rfl rfl rfl rfl rfl (by omega) hL ?_
  refine jj_cVP (as := [.int (xs (i + 1)), .int (xs (i + 2)), .int (xs (i + 3))]) (rest := [.int v]) (a := 51) (ci := 9) rfl ok9_giveBack ow9_giveBack rfl (lkL_65 nm) rfl h51 rfl rfl (fun v hv => by simp at hv; rcases hv with rfl | rfl | rfl <;> rfl) (Nat.le_of_ble_eq_true rfl) (Nat.le_of_ble_eq_true rfl) (Nat.zero_le _) (Nat.zero_le _) hq (fun r3 n3 h3 z => ?_)
  obtain ⟨rfl, hLS3⟩ := z
  refine jj_icmp_eq 1229 rfl rfl (fun _ => ?_) (fun c => absurd rfl c)
  exact jj_wk (by omega) (by omega) (K n3 h3 hLS3)
set_option maxHeartbeats 4000000 in
set_option maxRecDepth 100000 in
theorem law_12 (hLS : LSt B n h) (hi : i + 6 ≤ L) (hL : L ≤ 3072) (hc1 : 14 ≤ kc) (hc2 : 278 ≤ ks) (K : ∀ n2 h2, LSt B n2 h2 → JJ (XL B b L xs) G B (M_lawN nm) 1229 [some (.ref b), some (.ref (B + 0)), some (.ref (B + 51)), some (.int (nI i))] [] n2 h2 (kc - 14) (ks - 278) post) : JJ (XL B b L xs) G B (M_lawN nm) 584 [some (.ref b), some (.ref (B + 0)), some (.ref (B + 51)), some (.int (nI i))] [] n h kc ks post := by
  have hobj : h 0 = some (dob B) := by obtain ⟨N, S, F, f, L, pt, len, C, sv, hL, hl, hI, hC, hM, hS⟩ := hLS; exact hC.obj
  refine jj_s (pc' := 585) rfl rfl ?_
  refine jj_arg 1 1 rfl rfl rfl rfl rfl rfl (by omega) hL ?_
  refine jj_arg 2 2 rfl rfl rfl rfl rfl rfl (by omega) hL ?_
  refine jj_arg 3 3 rfl rfl rfl rfl rfl rfl (by omega) hL ?_
  refine jj_cVP (as := [.int (xs (i + 1)), .int (xs (i + 2)), .int (xs (i + 3))]) (rest := []) (a := 0) (ci := 8) rfl ok8_extend ow8_extend rfl (lkL_66 nm) rfl hobj rfl rfl (fun v hv => by simp at hv; rcases hv with rfl | rfl | rfl <;> rfl) (Nat.le_of_ble_eq_true rfl) (Nat.le_of_ble_eq_true rfl) (Nat.zero_le _) (Nat.zero_le _) (p_extend hLS (xs (i + 1)) (xs (i + 2)) (xs (i + 3))) (fun r n2 h2 q => ?_)
  obtain ⟨v, rfl, ⟨fs, h51⟩, hq⟩ := q
  refine jj_s (pc' := 604) rfl rfl ?_
  refine jj_arg 1 1 rfl rfl rfl rfl rfl rfl (by omega) hL ?_
  refine jj_arg 2 2 rfl rfl rfl rfl rfl rfl (by omega) hL ?_
  refine jj_arg 3 3 rfl rfl rfl rfl rfl rfl (by omega) hL ?_
  refine jj_cVP (as := [.int (xs (i + 1)), .int (xs (i + 2)), .int (xs (i + 3))]) (rest := [.int v]) (a := 51) (ci := 9) rfl ok9_extend ow9_extend rfl (lkL_69 nm) rfl h51 rfl rfl (fun v hv => by simp at hv; rcases hv with rfl | rfl | rfl <;> rfl) (Nat.le_of_ble_eq_true rfl) (Nat.le_of_ble_eq_true rfl) (Nat.zero_le _) (Nat.zero_le _) hq (fun r3 n3 h3 z => ?_)
  obtain ⟨rfl, hLS3⟩ := z
  refine jj_icmp_eq 1229 rfl rfl (fun _ => ?_) (fun c => absurd rfl c)
  exact jj_wk (by omega) (by omega) (K n3 h3 hLS3)
set_option maxHeartbeats 4000000 in
set_option maxRecDepth 100000 in
theorem law_13 (hLS : LSt B n h) (hi : i + 6 ≤ L) (hL : L ≤ 3072) (hc1 : 14 ≤ kc) (hc2 : 278 ≤ ks) (K : ∀ n2 h2, LSt B n2 h2 → JJ (XL B b L xs) G B (M_lawN nm) 1229 [some (.ref b), some (.ref (B + 0)), some (.ref (B + 51)), some (.int (nI i))] [] n2 h2 (kc - 14) (ks - 278) post) : JJ (XL B b L xs) G B (M_lawN nm) 627 [some (.ref b), some (.ref (B + 0)), some (.ref (B + 51)), some (.int (nI i))] [] n h kc ks post := by
  have hobj : h 0 = some (dob B) := by obtain ⟨N, S, F, f, L, pt, len, C, sv, hL, hl, hI, hC, hM, hS⟩ := hLS; exact hC.obj
  refine jj_s (pc' := 628) rfl rfl ?_
  refine jj_arg 1 1 rfl rfl rfl rfl rfl rfl (by omega) hL ?_
  refine jj_cVP (as := [.int (xs (i + 1))]) (rest := []) (a := 0) (ci := 8) rfl ok8_cancel ow8_cancel rfl (lkL_70 nm) rfl hobj rfl rfl (fun v hv => by simp at hv; rw [hv]; rfl) (Nat.le_of_ble_eq_true rfl) (Nat.le_of_ble_eq_true rfl) (Nat.zero_le _) (Nat.zero_le _) (p_cancel hLS (xs (i + 1))) (fun r n2 h2 q => ?_)
  obtain ⟨v, rfl, ⟨fs, h51⟩, hq⟩ := q
  refine jj_s (pc' := 637) rfl rfl ?_
  refine jj_arg 1 1 rfl rfl rfl rfl rfl rfl (by omega) hL ?_
  refine jj_cVP (as := [.int (xs (i + 1))]) (rest := [.int v]) (a := 51) (ci := 9) rfl ok9_cancel ow9_cancel rfl (lkL_73 nm) rfl h51 rfl rfl (fun v hv => by simp at hv; rw [hv]; rfl) (Nat.le_of_ble_eq_true rfl) (Nat.le_of_ble_eq_true rfl) (Nat.zero_le _) (Nat.zero_le _) hq (fun r3 n3 h3 z => ?_)
  obtain ⟨rfl, hLS3⟩ := z
  refine jj_icmp_eq 1229 rfl rfl (fun _ => ?_) (fun c => absurd rfl c)
  exact jj_wk (by omega) (by omega) (K n3 h3 hLS3)
set_option maxHeartbeats 4000000 in
set_option maxRecDepth 100000 in
theorem law_14 (hLS : LSt B n h) (hi : i + 6 ≤ L) (hL : L ≤ 3072) (hc1 : 14 ≤ kc) (hc2 : 278 ≤ ks) (K : ∀ n2 h2, LSt B n2 h2 → JJ (XL B b L xs) G B (M_lawN nm) 1229 [some (.ref b), some (.ref (B + 0)), some (.ref (B + 51)), some (.int (nI i))] [] n2 h2 (kc - 14) (ks - 278) post) : JJ (XL B b L xs) G B (M_lawN nm) 650 [some (.ref b), some (.ref (B + 0)), some (.ref (B + 51)), some (.int (nI i))] [] n h kc ks post := by
  have hobj : h 0 = some (dob B) := by obtain ⟨N, S, F, f, L, pt, len, C, sv, hL, hl, hI, hC, hM, hS⟩ := hLS; exact hC.obj
  refine jj_s (pc' := 651) rfl rfl ?_
  refine jj_arg 1 1 rfl rfl rfl rfl rfl rfl (by omega) hL ?_
  refine jj_cVP (as := [.int (xs (i + 1))]) (rest := []) (a := 0) (ci := 8) rfl ok8_revive ow8_revive rfl (lkL_74 nm) rfl hobj rfl rfl (fun v hv => by simp at hv; rw [hv]; rfl) (Nat.le_of_ble_eq_true rfl) (Nat.le_of_ble_eq_true rfl) (Nat.zero_le _) (Nat.zero_le _) (p_revive hLS (xs (i + 1))) (fun r n2 h2 q => ?_)
  obtain ⟨v, rfl, ⟨fs, h51⟩, hq⟩ := q
  refine jj_s (pc' := 660) rfl rfl ?_
  refine jj_arg 1 1 rfl rfl rfl rfl rfl rfl (by omega) hL ?_
  refine jj_cVP (as := [.int (xs (i + 1))]) (rest := [.int v]) (a := 51) (ci := 9) rfl ok9_revive ow9_revive rfl (lkL_77 nm) rfl h51 rfl rfl (fun v hv => by simp at hv; rw [hv]; rfl) (Nat.le_of_ble_eq_true rfl) (Nat.le_of_ble_eq_true rfl) (Nat.zero_le _) (Nat.zero_le _) hq (fun r3 n3 h3 z => ?_)
  obtain ⟨rfl, hLS3⟩ := z
  refine jj_icmp_eq 1229 rfl rfl (fun _ => ?_) (fun c => absurd rfl c)
  exact jj_wk (by omega) (by omega) (K n3 h3 hLS3)
set_option maxHeartbeats 4000000 in
set_option maxRecDepth 100000 in
theorem law_15 (hLS : LSt B n h) (hi : i + 6 ≤ L) (hL : L ≤ 3072) (hc1 : 14 ≤ kc) (hc2 : 278 ≤ ks) (K : ∀ n2 h2, LSt B n2 h2 → JJ (XL B b L xs) G B (M_lawN nm) 1229 [some (.ref b), some (.ref (B + 0)), some (.ref (B + 51)), some (.int (nI i))] [] n2 h2 (kc - 14) (ks - 278) post) : JJ (XL B b L xs) G B (M_lawN nm) 673 [some (.ref b), some (.ref (B + 0)), some (.ref (B + 51)), some (.int (nI i))] [] n h kc ks post := by
  have hobj : h 0 = some (dob B) := by obtain ⟨N, S, F, f, L, pt, len, C, sv, hL, hl, hI, hC, hM, hS⟩ := hLS; exact hC.obj
  refine jj_s (pc' := 674) rfl rfl ?_
  refine jj_arg 1 1 rfl rfl rfl rfl rfl rfl (by omega) hL ?_
  refine jj_cVP (as := [.int (xs (i + 1))]) (rest := []) (a := 0) (ci := 8) rfl ok8_tick ow8_tick rfl (lkL_78 nm) rfl hobj rfl rfl (fun v hv => by simp at hv; rw [hv]; rfl) (Nat.le_of_ble_eq_true rfl) (Nat.le_of_ble_eq_true rfl) (Nat.zero_le _) (Nat.zero_le _) (p_tick hLS (xs (i + 1))) (fun r n2 h2 q => ?_)
  obtain ⟨v, rfl, ⟨fs, h51⟩, hq⟩ := q
  refine jj_s (pc' := 683) rfl rfl ?_
  refine jj_arg 1 1 rfl rfl rfl rfl rfl rfl (by omega) hL ?_
  refine jj_cVP (as := [.int (xs (i + 1))]) (rest := [.int v]) (a := 51) (ci := 9) rfl ok9_tick ow9_tick rfl (lkL_81 nm) rfl h51 rfl rfl (fun v hv => by simp at hv; rw [hv]; rfl) (Nat.le_of_ble_eq_true rfl) (Nat.le_of_ble_eq_true rfl) (Nat.zero_le _) (Nat.zero_le _) hq (fun r3 n3 h3 z => ?_)
  obtain ⟨rfl, hLS3⟩ := z
  refine jj_icmp_eq 1229 rfl rfl (fun _ => ?_) (fun c => absurd rfl c)
  exact jj_wk (by omega) (by omega) (K n3 h3 hLS3)
set_option maxHeartbeats 4000000 in
set_option maxRecDepth 100000 in
theorem law_16 (hLS : LSt B n h) (hi : i + 6 ≤ L) (hL : L ≤ 3072) (hc1 : 14 ≤ kc) (hc2 : 278 ≤ ks) (K : ∀ n2 h2, LSt B n2 h2 → JJ (XL B b L xs) G B (M_lawN nm) 1229 [some (.ref b), some (.ref (B + 0)), some (.ref (B + 51)), some (.int (nI i))] [] n2 h2 (kc - 14) (ks - 278) post) : JJ (XL B b L xs) G B (M_lawN nm) 696 [some (.ref b), some (.ref (B + 0)), some (.ref (B + 51)), some (.int (nI i))] [] n h kc ks post := by
  have hobj : h 0 = some (dob B) := by obtain ⟨N, S, F, f, L, pt, len, C, sv, hL, hl, hI, hC, hM, hS⟩ := hLS; exact hC.obj
  refine jj_s (pc' := 697) rfl rfl ?_
  refine jj_cVP (as := []) (rest := []) (a := 0) (ci := 8) rfl ok8_items ow8_items rfl (lkL_82 nm) rfl hobj rfl rfl (fun v hv => by simp at hv) (Nat.le_of_ble_eq_true rfl) (Nat.le_of_ble_eq_true rfl) (Nat.zero_le _) (Nat.zero_le _) (p_items hLS ) (fun r n2 h2 q => ?_)
  obtain ⟨v, rfl, ⟨fs, h51⟩, hq⟩ := q
  refine jj_s (pc' := 701) rfl rfl ?_
  refine jj_cVP (as := []) (rest := [.int v]) (a := 51) (ci := 9) rfl ok9_items ow9_items rfl (lkL_85 nm) rfl h51 rfl rfl (fun v hv => by simp at hv) (Nat.le_of_ble_eq_true rfl) (Nat.le_of_ble_eq_true rfl) (Nat.zero_le _) (Nat.zero_le _) hq (fun r3 n3 h3 z => ?_)
  obtain ⟨rfl, hLS3⟩ := z
  refine jj_icmp_eq 1229 rfl rfl (fun _ => ?_) (fun c => absurd rfl c)
  exact jj_wk (by omega) (by omega) (K n3 h3 hLS3)
set_option maxHeartbeats 4000000 in
set_option maxRecDepth 100000 in
theorem law_17 (hLS : LSt B n h) (hi : i + 6 ≤ L) (hL : L ≤ 3072) (hc1 : 14 ≤ kc) (hc2 : 278 ≤ ks) (K : ∀ n2 h2, LSt B n2 h2 → JJ (XL B b L xs) G B (M_lawN nm) 1229 [some (.ref b), some (.ref (B + 0)), some (.ref (B + 51)), some (.int (nI i))] [] n2 h2 (kc - 14) (ks - 278) post) : JJ (XL B b L xs) G B (M_lawN nm) 709 [some (.ref b), some (.ref (B + 0)), some (.ref (B + 51)), some (.int (nI i))] [] n h kc ks post := by
  have hobj : h 0 = some (dob B) := by obtain ⟨N, S, F, f, L, pt, len, C, sv, hL, hl, hI, hC, hM, hS⟩ := hLS; exact hC.obj
  refine jj_s (pc' := 710) rfl rfl ?_
  refine jj_cVP (as := []) (rest := []) (a := 0) (ci := 8) rfl ok8_edges ow8_edges rfl (lkL_86 nm) rfl hobj rfl rfl (fun v hv => by simp at hv) (Nat.le_of_ble_eq_true rfl) (Nat.le_of_ble_eq_true rfl) (Nat.zero_le _) (Nat.zero_le _) (p_edges hLS ) (fun r n2 h2 q => ?_)
  obtain ⟨v, rfl, ⟨fs, h51⟩, hq⟩ := q
  refine jj_s (pc' := 714) rfl rfl ?_
  refine jj_cVP (as := []) (rest := [.int v]) (a := 51) (ci := 9) rfl ok9_edges ow9_edges rfl (lkL_89 nm) rfl h51 rfl rfl (fun v hv => by simp at hv) (Nat.le_of_ble_eq_true rfl) (Nat.le_of_ble_eq_true rfl) (Nat.zero_le _) (Nat.zero_le _) hq (fun r3 n3 h3 z => ?_)
  obtain ⟨rfl, hLS3⟩ := z
  refine jj_icmp_eq 1229 rfl rfl (fun _ => ?_) (fun c => absurd rfl c)
  exact jj_wk (by omega) (by omega) (K n3 h3 hLS3)
set_option maxHeartbeats 4000000 in
set_option maxRecDepth 100000 in
theorem law_18 (hLS : LSt B n h) (hi : i + 6 ≤ L) (hL : L ≤ 3072) (hc1 : 14 ≤ kc) (hc2 : 278 ≤ ks) (K : ∀ n2 h2, LSt B n2 h2 → JJ (XL B b L xs) G B (M_lawN nm) 1229 [some (.ref b), some (.ref (B + 0)), some (.ref (B + 51)), some (.int (nI i))] [] n2 h2 (kc - 14) (ks - 278) post) : JJ (XL B b L xs) G B (M_lawN nm) 722 [some (.ref b), some (.ref (B + 0)), some (.ref (B + 51)), some (.int (nI i))] [] n h kc ks post := by
  have hobj : h 0 = some (dob B) := by obtain ⟨N, S, F, f, L, pt, len, C, sv, hL, hl, hI, hC, hM, hS⟩ := hLS; exact hC.obj
  refine jj_s (pc' := 723) rfl rfl ?_
  refine jj_cVP (as := []) (rest := []) (a := 0) (ci := 8) rfl ok8_time ow8_time rfl (lkL_90 nm) rfl hobj rfl rfl (fun v hv => by simp at hv) (Nat.le_of_ble_eq_true rfl) (Nat.le_of_ble_eq_true rfl) (Nat.zero_le _) (Nat.zero_le _) (p_time hLS ) (fun r n2 h2 q => ?_)
  obtain ⟨v, rfl, ⟨fs, h51⟩, hq⟩ := q
  refine jj_s (pc' := 727) rfl rfl ?_
  refine jj_cVP (as := []) (rest := [.int v]) (a := 51) (ci := 9) rfl ok9_time ow9_time rfl (lkL_93 nm) rfl h51 rfl rfl (fun v hv => by simp at hv) (Nat.le_of_ble_eq_true rfl) (Nat.le_of_ble_eq_true rfl) (Nat.zero_le _) (Nat.zero_le _) hq (fun r3 n3 h3 z => ?_)
  obtain ⟨rfl, hLS3⟩ := z
  refine jj_icmp_eq 1229 rfl rfl (fun _ => ?_) (fun c => absurd rfl c)
  exact jj_wk (by omega) (by omega) (K n3 h3 hLS3)
set_option maxHeartbeats 4000000 in
set_option maxRecDepth 100000 in
theorem law_19 (hLS : LSt B n h) (hi : i + 6 ≤ L) (hL : L ≤ 3072) (hc1 : 14 ≤ kc) (hc2 : 278 ≤ ks) (K : ∀ n2 h2, LSt B n2 h2 → JJ (XL B b L xs) G B (M_lawN nm) 1229 [some (.ref b), some (.ref (B + 0)), some (.ref (B + 51)), some (.int (nI i))] [] n2 h2 (kc - 14) (ks - 278) post) : JJ (XL B b L xs) G B (M_lawN nm) 735 [some (.ref b), some (.ref (B + 0)), some (.ref (B + 51)), some (.int (nI i))] [] n h kc ks post := by
  have hobj : h 0 = some (dob B) := by obtain ⟨N, S, F, f, L, pt, len, C, sv, hL, hl, hI, hC, hM, hS⟩ := hLS; exact hC.obj
  refine jj_s (pc' := 736) rfl rfl ?_
  refine jj_arg 1 1 rfl rfl rfl rfl rfl rfl (by omega) hL ?_
  refine jj_cVP (as := [.int (xs (i + 1))]) (rest := []) (a := 0) (ci := 8) rfl ok8_state ow8_state rfl (lkL_94 nm) rfl hobj rfl rfl (fun v hv => by simp at hv; rw [hv]; rfl) (Nat.le_of_ble_eq_true rfl) (Nat.le_of_ble_eq_true rfl) (Nat.zero_le _) (Nat.zero_le _) (p_state hLS (xs (i + 1))) (fun r n2 h2 q => ?_)
  obtain ⟨v, rfl, ⟨fs, h51⟩, hq⟩ := q
  refine jj_s (pc' := 745) rfl rfl ?_
  refine jj_arg 1 1 rfl rfl rfl rfl rfl rfl (by omega) hL ?_
  refine jj_cVP (as := [.int (xs (i + 1))]) (rest := [.int v]) (a := 51) (ci := 9) rfl ok9_state ow9_state rfl (lkL_97 nm) rfl h51 rfl rfl (fun v hv => by simp at hv; rw [hv]; rfl) (Nat.le_of_ble_eq_true rfl) (Nat.le_of_ble_eq_true rfl) (Nat.zero_le _) (Nat.zero_le _) hq (fun r3 n3 h3 z => ?_)
  obtain ⟨rfl, hLS3⟩ := z
  refine jj_icmp_eq 1229 rfl rfl (fun _ => ?_) (fun c => absurd rfl c)
  exact jj_wk (by omega) (by omega) (K n3 h3 hLS3)
end
