/-! the law: which call -/
set_option maxHeartbeats 4000000 in
set_option maxRecDepth 100000 in
theorem law_sw {nm : String} {G : GC} {B b L : Nat} {xs : Nat → Int32} {i n : Nat} {h : HT} {kc ks : Nat} {post : Option Value → Nat → HT → Prop} (hLS : LSt B n h) (hi : i + 6 ≤ L) (hL : L ≤ 3072) (hc1 : 14 ≤ kc) (hc2 : 278 ≤ ks) (K : ∀ n2 h2, LSt B n2 h2 → JJ (XL B b L xs) G B (M_lawN nm) 1229 [some (.ref b), some (.ref (B + 0)), some (.ref (B + 51)), some (.int (nI i))] [] n2 h2 (kc - 14) (ks - 278) post) {k : Nat} (hz : (nI k).toInt = (k : Int)) (hk : k < 40) : JJ (XL B b L xs) G B (M_lawN nm) 33 [some (.ref b), some (.ref (B + 0)), some (.ref (B + 51)), some (.int (nI i))] [.int (nI k)] n h kc ks post := by
  by_cases e0 : k = 0
  · refine jj_swIn (off := 175) 208 rfl (by rw [hz]; omega) (by rw [hz]; omega) (by rw [hz, e0]; rfl) rfl ?_
    exact law_0 hLS hi hL hc1 hc2 K
  by_cases e1 : k = 1
  · refine jj_swIn (off := 238) 271 rfl (by rw [hz]; omega) (by rw [hz]; omega) (by rw [hz, e1]; rfl) rfl ?_
    exact law_1 hLS hi hL hc1 hc2 K
  by_cases e2 : k = 2
  · refine jj_swIn (off := 281) 314 rfl (by rw [hz]; omega) (by rw [hz]; omega) (by rw [hz, e2]; rfl) rfl ?_
    exact law_2 hLS hi hL hc1 hc2 K
  by_cases e3 : k = 3
  · refine jj_swIn (off := 304) 337 rfl (by rw [hz]; omega) (by rw [hz]; omega) (by rw [hz, e3]; rfl) rfl ?_
    exact law_3 hLS hi hL hc1 hc2 K
  by_cases e4 : k = 4
  · refine jj_swIn (off := 337) 370 rfl (by rw [hz]; omega) (by rw [hz]; omega) (by rw [hz, e4]; rfl) rfl ?_
    exact law_4 hLS hi hL hc1 hc2 K
  by_cases e5 : k = 5
  · refine jj_swIn (off := 370) 403 rfl (by rw [hz]; omega) (by rw [hz]; omega) (by rw [hz, e5]; rfl) rfl ?_
    exact law_5 hLS hi hL hc1 hc2 K
  by_cases e6 : k = 6
  · refine jj_swIn (off := 393) 426 rfl (by rw [hz]; omega) (by rw [hz]; omega) (by rw [hz, e6]; rfl) rfl ?_
    exact law_6 hLS hi hL hc1 hc2 K
  by_cases e7 : k = 7
  · refine jj_swIn (off := 416) 449 rfl (by rw [hz]; omega) (by rw [hz]; omega) (by rw [hz, e7]; rfl) rfl ?_
    exact law_7 hLS hi hL hc1 hc2 K
  by_cases e8 : k = 8
  · refine jj_swIn (off := 429) 462 rfl (by rw [hz]; omega) (by rw [hz]; omega) (by rw [hz, e8]; rfl) rfl ?_
    exact law_8 hLS hi hL hc1 hc2 K
  by_cases e9 : k = 9
  · refine jj_swIn (off := 452) 485 rfl (by rw [hz]; omega) (by rw [hz]; omega) (by rw [hz, e9]; rfl) rfl ?_
    exact law_9 hLS hi hL hc1 hc2 K
  by_cases e10 : k = 10
  · refine jj_swIn (off := 475) 508 rfl (by rw [hz]; omega) (by rw [hz]; omega) (by rw [hz, e10]; rfl) rfl ?_
    exact law_10 hLS hi hL hc1 hc2 K
  by_cases e11 : k = 11
  · refine jj_swIn (off := 508) 541 rfl (by rw [hz]; omega) (by rw [hz]; omega) (by rw [hz, e11]; rfl) rfl ?_
    exact law_11 hLS hi hL hc1 hc2 K
  by_cases e12 : k = 12
  · refine jj_swIn (off := 551) 584 rfl (by rw [hz]; omega) (by rw [hz]; omega) (by rw [hz, e12]; rfl) rfl ?_
    exact law_12 hLS hi hL hc1 hc2 K
  by_cases e13 : k = 13
  · refine jj_swIn (off := 594) 627 rfl (by rw [hz]; omega) (by rw [hz]; omega) (by rw [hz, e13]; rfl) rfl ?_
    exact law_13 hLS hi hL hc1 hc2 K
  by_cases e14 : k = 14
  · refine jj_swIn (off := 617) 650 rfl (by rw [hz]; omega) (by rw [hz]; omega) (by rw [hz, e14]; rfl) rfl ?_
    exact law_14 hLS hi hL hc1 hc2 K
  by_cases e15 : k = 15
  · refine jj_swIn (off := 640) 673 rfl (by rw [hz]; omega) (by rw [hz]; omega) (by rw [hz, e15]; rfl) rfl ?_
    exact law_15 hLS hi hL hc1 hc2 K
  by_cases e16 : k = 16
  · refine jj_swIn (off := 663) 696 rfl (by rw [hz]; omega) (by rw [hz]; omega) (by rw [hz, e16]; rfl) rfl ?_
    exact law_16 hLS hi hL hc1 hc2 K
  by_cases e17 : k = 17
  · refine jj_swIn (off := 676) 709 rfl (by rw [hz]; omega) (by rw [hz]; omega) (by rw [hz, e17]; rfl) rfl ?_
    exact law_17 hLS hi hL hc1 hc2 K
  by_cases e18 : k = 18
  · refine jj_swIn (off := 689) 722 rfl (by rw [hz]; omega) (by rw [hz]; omega) (by rw [hz, e18]; rfl) rfl ?_
    exact law_18 hLS hi hL hc1 hc2 K
  by_cases e19 : k = 19
  · refine jj_swIn (off := 702) 735 rfl (by rw [hz]; omega) (by rw [hz]; omega) (by rw [hz, e19]; rfl) rfl ?_
    exact law_19 hLS hi hL hc1 hc2 K
  by_cases e20 : k = 20
  · refine jj_swIn (off := 725) 758 rfl (by rw [hz]; omega) (by rw [hz]; omega) (by rw [hz, e20]; rfl) rfl ?_
    exact law_20 hLS hi hL hc1 hc2 K
  by_cases e21 : k = 21
  · refine jj_swIn (off := 748) 781 rfl (by rw [hz]; omega) (by rw [hz]; omega) (by rw [hz, e21]; rfl) rfl ?_
    exact law_21 hLS hi hL hc1 hc2 K
  by_cases e22 : k = 22
  · refine jj_swIn (off := 781) 814 rfl (by rw [hz]; omega) (by rw [hz]; omega) (by rw [hz, e22]; rfl) rfl ?_
    exact law_22 hLS hi hL hc1 hc2 K
  by_cases e23 : k = 23
  · refine jj_swIn (off := 814) 847 rfl (by rw [hz]; omega) (by rw [hz]; omega) (by rw [hz, e23]; rfl) rfl ?_
    exact law_23 hLS hi hL hc1 hc2 K
  by_cases e24 : k = 24
  · refine jj_swIn (off := 837) 870 rfl (by rw [hz]; omega) (by rw [hz]; omega) (by rw [hz, e24]; rfl) rfl ?_
    exact law_24 hLS hi hL hc1 hc2 K
  by_cases e25 : k = 25
  · refine jj_swIn (off := 860) 893 rfl (by rw [hz]; omega) (by rw [hz]; omega) (by rw [hz, e25]; rfl) rfl ?_
    exact law_25 hLS hi hL hc1 hc2 K
  by_cases e26 : k = 26
  · refine jj_swIn (off := 883) 916 rfl (by rw [hz]; omega) (by rw [hz]; omega) (by rw [hz, e26]; rfl) rfl ?_
    exact law_26 hLS hi hL hc1 hc2 K
  by_cases e27 : k = 27
  · refine jj_swIn (off := 906) 939 rfl (by rw [hz]; omega) (by rw [hz]; omega) (by rw [hz, e27]; rfl) rfl ?_
    exact law_27 hLS hi hL hc1 hc2 K
  by_cases e28 : k = 28
  · refine jj_swIn (off := 939) 972 rfl (by rw [hz]; omega) (by rw [hz]; omega) (by rw [hz, e28]; rfl) rfl ?_
    exact law_28 hLS hi hL hc1 hc2 K
  by_cases e29 : k = 29
  · refine jj_swIn (off := 972) 1005 rfl (by rw [hz]; omega) (by rw [hz]; omega) (by rw [hz, e29]; rfl) rfl ?_
    exact law_29 hLS hi hL hc1 hc2 K
  by_cases e30 : k = 30
  · refine jj_swIn (off := 1015) 1048 rfl (by rw [hz]; omega) (by rw [hz]; omega) (by rw [hz, e30]; rfl) rfl ?_
    exact law_30 hLS hi hL hc1 hc2 K
  by_cases e31 : k = 31
  · refine jj_swIn (off := 1038) 1071 rfl (by rw [hz]; omega) (by rw [hz]; omega) (by rw [hz, e31]; rfl) rfl ?_
    exact law_31 hLS hi hL hc1 hc2 K
  by_cases e32 : k = 32
  · refine jj_swIn (off := 1061) 1094 rfl (by rw [hz]; omega) (by rw [hz]; omega) (by rw [hz, e32]; rfl) rfl ?_
    exact law_32 hLS hi hL hc1 hc2 K
  by_cases e33 : k = 33
  · refine jj_swIn (off := 1074) 1107 rfl (by rw [hz]; omega) (by rw [hz]; omega) (by rw [hz, e33]; rfl) rfl ?_
    exact law_33 hLS hi hL hc1 hc2 K
  by_cases e34 : k = 34
  · refine jj_swIn (off := 1088) 1121 rfl (by rw [hz]; omega) (by rw [hz]; omega) (by rw [hz, e34]; rfl) rfl ?_
    exact law_34 hLS hi hL hc1 hc2 K
  by_cases e35 : k = 35
  · refine jj_swIn (off := 1111) 1144 rfl (by rw [hz]; omega) (by rw [hz]; omega) (by rw [hz, e35]; rfl) rfl ?_
    exact law_35 hLS hi hL hc1 hc2 K
  by_cases e36 : k = 36
  · refine jj_swIn (off := 1124) 1157 rfl (by rw [hz]; omega) (by rw [hz]; omega) (by rw [hz, e36]; rfl) rfl ?_
    exact law_36 hLS hi hL hc1 hc2 K
  by_cases e37 : k = 37
  · refine jj_swIn (off := 1137) 1170 rfl (by rw [hz]; omega) (by rw [hz]; omega) (by rw [hz, e37]; rfl) rfl ?_
    exact law_37 hLS hi hL hc1 hc2 K
  by_cases e38 : k = 38
  · refine jj_swIn (off := 1150) 1183 rfl (by rw [hz]; omega) (by rw [hz]; omega) (by rw [hz, e38]; rfl) rfl ?_
    exact law_38 hLS hi hL hc1 hc2 K
  by_cases e39 : k = 39
  · refine jj_swIn (off := 1173) 1206 rfl (by rw [hz]; omega) (by rw [hz]; omega) (by rw [hz, e39]; rfl) rfl ?_
    exact law_39 hLS hi hL hc1 hc2 K
  omega
/-! the law: its loop -/
set_option maxHeartbeats 4000000 in
set_option maxRecDepth 100000 in
theorem law_loop {nm : String} {G : GC} {B b L : Nat} {xs : Nat → Int32} (hL : L ≤ 3072) : ∀ d i n h, L < i + d → i ≤ 3078 → LSt B n h → JJ (XL B b L xs) G B (M_lawN nm) 18 [some (.ref b), some (.ref (B + 0)), some (.ref (B + 51)), some (.int (nI i))] [] n h (14 * d) (278 * d) (fun r _ _ => r = some (.int 1)) := by
  intro d
  induction d with
  | zero =>
    intro i n h hd hi hLS
    refine jj_s (pc' := 19) rfl rfl ?_
    refine jj_s (pc' := 20) rfl rfl ?_
    refine jj_slen rfl ?_
    refine jj_s (pc' := 23) rfl rfl ?_
    refine jj_s (pc' := 24) rfl rfl ?_
    refine jj_icmp_gt 1235 rfl rfl (fun _ => ?_) (fun c => absurd ((law_gt hL (by omega)).mpr (by omega)) c)
    refine jj_s (pc' := 1236) rfl rfl ?_
    exact jj_zret rfl rfl (Or.inr rfl) rfl
  | succ d ih =>
    intro i n h hd hi hLS
    refine jj_s (pc' := 19) rfl rfl ?_
    refine jj_s (pc' := 20) rfl rfl ?_
    refine jj_slen rfl ?_
    refine jj_s (pc' := 23) rfl rfl ?_
    refine jj_s (pc' := 24) rfl rfl ?_
    refine jj_icmp_gt 1235 rfl rfl (fun _ => ?_) (fun c => ?_)
    · refine jj_s (pc' := 1236) rfl rfl ?_
      exact jj_zret rfl rfl (Or.inr rfl) rfl
    · have hiL : i + 6 ≤ L := by
        rcases Nat.lt_or_ge L (i + 6) with q | q
        · exact absurd ((law_gt hL (by omega)).mpr q) c
        · exact q
      have nxt : ∀ n2 h2 kc ks, 14 * d ≤ kc → 278 * d ≤ ks → LSt B n2 h2 → JJ (XL B b L xs) G B (M_lawN nm) 1229 [some (.ref b), some (.ref (B + 0)), some (.ref (B + 51)), some (.int (nI i))] [] n2 h2 kc ks (fun r _ _ => r = some (.int 1)) := by
        intro n2 h2 kc ks k1 k2 hLS2
        refine jj_s (pc' := 1232) rfl rfl ?_
        refine jj_s (pc' := 18) rfl rfl ?_
        refine jj_lv ?_ (jj_wk k1 k2 (ih (i + 6) n2 h2 (by omega) (by omega) hLS2))
        show [some (Value.ref b), some (Value.ref (B + 0)), some (Value.ref (B + 51)), some (Value.int (nI i + Int32.ofInt 6))] = _
        rw [show Int32.ofInt 6 = nI 6 from rfl, nI_add]
      refine jj_s (pc' := 28) rfl rfl ?_
      refine jj_s (pc' := 29) rfl rfl ?_
      refine jj_sld rfl (by omega) hL ?_
      refine jj_s (pc' := 32) rfl rfl ?_
      refine jj_s (pc' := 33) rfl rfl ?_
      obtain ⟨k, hk, ek⟩ := and63 (xs i)
      refine jj_st (st' := [.int (nI k)]) (by rw [← ek]; rfl) ?_
      have hz := nI_tI hk
      have c1 : 14 ≤ 14 * (d + 1) := by omega
      have c2 : 278 ≤ 278 * (d + 1) := by omega
      have K : ∀ n2 h2, LSt B n2 h2 → JJ (XL B b L xs) G B (M_lawN nm) 1229 [some (.ref b), some (.ref (B + 0)), some (.ref (B + 51)), some (.int (nI i))] [] n2 h2 (14 * (d + 1) - 14) (278 * (d + 1) - 278) (fun r _ _ => r = some (.int 1)) := fun n2 h2 hLS2 => nxt n2 h2 _ _ (by omega) (by omega) hLS2
      rcases Nat.lt_or_ge k 40 with q | q
      · exact law_sw hLS hiL hL c1 c2 K hz q
      · exact jj_swOut 1229 rfl (Or.inr (by rw [hz]; omega)) rfl (nxt n h _ _ (by omega) (by omega) hLS)
