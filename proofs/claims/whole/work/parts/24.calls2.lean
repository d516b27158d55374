/-! the class's calls that look at paths -/
def zPro (N : Nat) (F : Nat → Nat → Int32) (x y : Int32) : Int32 := if isN N x = true then (if y = 0 then F 0 (ix x) else if y = 1 then F 1 (ix x) else if y = 2 then F 2 (ix x) else if y = 3 then F 3 (ix x) else if y = 4 then F 4 (ix x) else if y = 5 then F 9 (ix x) else if y = 6 then (if F 5 (ix x) = 1 then F 6 (ix x) else -7) else if y = 7 then (if F 5 (ix x) = 2 then F 8 (ix x) else -7) else -2) else -1
set_option maxHeartbeats 4000000 in
set_option maxRecDepth 100000 in
 theorem d_property {G : GC} {B n N : Nat} {S : Nat → Int32} {F : Nat → Nat → Int32} {f : Nat → Option Nat} {wl : Int32} {pt : Nat → Int32} {len : Nat} {C : Nat → Int32} {h : HT} (hN : N ≤ 20) (hC : CL B N S F f wl pt len C h) (x y : Int32) : CtJ G B M8_property [.ref (B + 0), .int x, .int y] n h 0 0 (fun r2 n2 h2 => r2 = some (.int (zPro N F x y)) ∧ n2 = n ∧ CL B N S F f wl pt len C h2 ∧ tl51 h h2) := by
  obtain ⟨P, Wr, V, Lr, Cr, w, mb, nd, a, Nd, Sd, Fd, hc, hpt⟩ := hC
  have dO : ∀ N S F, wQ B 1 N S F h 0 = some (dob B) := fun N S F => (wQ_n (by omega)).trans hc.1
  have fin : ∀ N' S' F', CL B N' S' F' f wl pt len C (wQ B 1 N' S' F' h) ∧ tl51 h (wQ B 1 N' S' F' h) := fun N' S' F' => ⟨⟨P, Wr, V, Lr, Cr, w, mb, nd, a, Nd, Sd, Fd, hc.q _ _ _, hpt⟩, fun k hk => wQ_n (by omega)⟩
  unfold CtJ
  refine jj_lv (lv' := [some (.ref (B + 0)), some (.int x), some (.int y)]) rfl ?_
  refine jj_h (h' := wQ B 1 N S F h) hc.2.1.id ?_
  refine jj_s (pc' := 1) rfl rfl ?_
  refine jj_g rfl rfl (dO _ _ _) rfl ?_
  refine jj_s (pc' := 5) rfl rfl ?_
  refine jj_v1 rfl rfl rfl wQ_o rfl rfl (c_holds _) ?_
  refine jj_zF 13 rfl rfl (fun (c1 : isN N x = true) => ?_) (fun (c1 : isN N x = false) => ?_)
  · obtain ⟨i, hi, rfl⟩ := isN_of hN c1
    refine jj_s (pc' := 14) rfl rfl ?_
    by_cases hy : y.toInt < 0 ∨ 7 < y.toInt
    · refine jj_swOut 176 rfl hy rfl ?_
      refine jj_s (pc' := 178) rfl rfl ?_
      refine jj_iret rfl rfl ⟨?_, rfl, fin _ _ _⟩
      have ne : ∀ k : Int32, 0 ≤ k.toInt → k.toInt ≤ 7 → ¬ y = k := fun k h1 h2 z => by rw [z] at hy; omega
      rw [zPro, if_pos c1, if_neg (ne 0 (by decide) (by decide)), if_neg (ne 1 (by decide) (by decide)), if_neg (ne 2 (by decide) (by decide)), if_neg (ne 3 (by decide) (by decide)), if_neg (ne 4 (by decide) (by decide)), if_neg (ne 5 (by decide) (by decide)), if_neg (ne 6 (by decide) (by decide)), if_neg (ne 7 (by decide) (by decide))]
      rfl
    · have hy1 : ¬ y.toInt < 0 := fun z => hy (Or.inl z)
      have hy2 : ¬ 7 < y.toInt := fun z => hy (Or.inr z)
      have hys : y = 0 ∨ y = 1 ∨ y = 2 ∨ y = 3 ∨ y = 4 ∨ y = 5 ∨ y = 6 ∨ y = 7 := by
        have : y.toInt = 0 ∨ y.toInt = 1 ∨ y.toInt = 2 ∨ y.toInt = 3 ∨ y.toInt = 4 ∨ y.toInt = 5 ∨ y.toInt = 6 ∨ y.toInt = 7 := by omega
        rcases this with z | z | z | z | z | z | z | z
        · exact Or.inl (Int32.toInt_inj.mp z)
        · exact Or.inr (Or.inl (Int32.toInt_inj.mp z))
        · exact Or.inr (Or.inr (Or.inl (Int32.toInt_inj.mp z)))
        · exact Or.inr (Or.inr (Or.inr (Or.inl (Int32.toInt_inj.mp z))))
        · exact Or.inr (Or.inr (Or.inr (Or.inr (Or.inl (Int32.toInt_inj.mp z)))))
        · exact Or.inr (Or.inr (Or.inr (Or.inr (Or.inr (Or.inl (Int32.toInt_inj.mp z))))))
        · exact Or.inr (Or.inr (Or.inr (Or.inr (Or.inr (Or.inr (Or.inl (Int32.toInt_inj.mp z)))))))
        · exact Or.inr (Or.inr (Or.inr (Or.inr (Or.inr (Or.inr (Or.inr (Int32.toInt_inj.mp z)))))))
      rcases hys with rfl | rfl | rfl | rfl | rfl | rfl | rfl | rfl
      · refine jj_swIn 60 rfl hy1 hy2 rfl rfl ?_
        refine jj_s (pc' := 61) rfl rfl ?_
        refine jj_g rfl rfl (dO _ _ _) rfl ?_
        refine jj_g rfl rfl wQ_o rfl ?_
        refine jj_s (pc' := 68) rfl rfl ?_
        refine jj_qld [] rfl rfl (by decide) (by first | assumption | omega) ?_
        exact jj_iret rfl rfl ⟨by rw [zPro, if_pos c1, ix_nI (by omega)]; rfl, rfl, fin _ _ _⟩
      · refine jj_swIn 70 rfl hy1 hy2 rfl rfl ?_
        refine jj_s (pc' := 71) rfl rfl ?_
        refine jj_g rfl rfl (dO _ _ _) rfl ?_
        refine jj_g rfl rfl wQ_o rfl ?_
        refine jj_s (pc' := 78) rfl rfl ?_
        refine jj_qld [] rfl rfl (by decide) (by first | assumption | omega) ?_
        exact jj_iret rfl rfl ⟨by rw [zPro, if_pos c1, ix_nI (by omega)]; rfl, rfl, fin _ _ _⟩
      · refine jj_swIn 80 rfl hy1 hy2 rfl rfl ?_
        refine jj_s (pc' := 81) rfl rfl ?_
        refine jj_g rfl rfl (dO _ _ _) rfl ?_
        refine jj_g rfl rfl wQ_o rfl ?_
        refine jj_s (pc' := 88) rfl rfl ?_
        refine jj_qld [] rfl rfl (by decide) (by first | assumption | omega) ?_
        exact jj_iret rfl rfl ⟨by rw [zPro, if_pos c1, ix_nI (by omega)]; rfl, rfl, fin _ _ _⟩
      · refine jj_swIn 90 rfl hy1 hy2 rfl rfl ?_
        refine jj_s (pc' := 91) rfl rfl ?_
        refine jj_g rfl rfl (dO _ _ _) rfl ?_
        refine jj_g rfl rfl wQ_o rfl ?_
        refine jj_s (pc' := 98) rfl rfl ?_
        refine jj_qld [] rfl rfl (by decide) (by first | assumption | omega) ?_
        exact jj_iret rfl rfl ⟨by rw [zPro, if_pos c1, ix_nI (by omega)]; rfl, rfl, fin _ _ _⟩
      · refine jj_swIn 100 rfl hy1 hy2 rfl rfl ?_
        refine jj_s (pc' := 101) rfl rfl ?_
        refine jj_g rfl rfl (dO _ _ _) rfl ?_
        refine jj_g rfl rfl wQ_o rfl ?_
        refine jj_s (pc' := 108) rfl rfl ?_
        refine jj_qld [] rfl rfl (by decide) (by first | assumption | omega) ?_
        exact jj_iret rfl rfl ⟨by rw [zPro, if_pos c1, ix_nI (by omega)]; rfl, rfl, fin _ _ _⟩
      · refine jj_swIn 110 rfl hy1 hy2 rfl rfl ?_
        refine jj_s (pc' := 111) rfl rfl ?_
        refine jj_g rfl rfl (dO _ _ _) rfl ?_
        refine jj_g rfl rfl wQ_o rfl ?_
        refine jj_s (pc' := 118) rfl rfl ?_
        refine jj_qld [] rfl rfl (by decide) (by first | assumption | omega) ?_
        exact jj_iret rfl rfl ⟨by rw [zPro, if_pos c1, ix_nI (by omega)]; rfl, rfl, fin _ _ _⟩
      · refine jj_swIn 120 rfl hy1 hy2 rfl rfl ?_
        refine jj_s (pc' := 121) rfl rfl ?_
        refine jj_g rfl rfl (dO _ _ _) rfl ?_
        refine jj_g rfl rfl wQ_o rfl ?_
        refine jj_s (pc' := 128) rfl rfl ?_
        refine jj_qld [] rfl rfl (by decide) (by first | assumption | omega) ?_
        refine jj_s (pc' := 130) rfl rfl ?_
        have e : zPro N F (nI i) 6 = if F 5 i = 1 then F 6 i else -7 := by rw [zPro, if_pos c1, ix_nI (by omega)]; rfl
        refine jj_icmp_ne 145 rfl rfl (fun (c2 : ¬ F 5 i = 1) => ?_) (fun (c2 : F 5 i = 1) => ?_)
        · refine jj_s (pc' := 147) rfl rfl ?_
          exact jj_iret rfl rfl ⟨by rw [e, if_neg c2]; rfl, rfl, fin _ _ _⟩
        · refine jj_s (pc' := 134) rfl rfl ?_
          refine jj_g rfl rfl (dO _ _ _) rfl ?_
          refine jj_g rfl rfl wQ_o rfl ?_
          refine jj_s (pc' := 141) rfl rfl ?_
          refine jj_qld [] rfl rfl (by decide) (by first | assumption | omega) ?_
          refine jj_s (pc' := 147) rfl rfl ?_
          exact jj_iret rfl rfl ⟨by rw [e, if_pos c2], rfl, fin _ _ _⟩
      · refine jj_swIn 148 rfl hy1 hy2 rfl rfl ?_
        refine jj_s (pc' := 149) rfl rfl ?_
        refine jj_g rfl rfl (dO _ _ _) rfl ?_
        refine jj_g rfl rfl wQ_o rfl ?_
        refine jj_s (pc' := 156) rfl rfl ?_
        refine jj_qld [] rfl rfl (by decide) (by first | assumption | omega) ?_
        refine jj_s (pc' := 158) rfl rfl ?_
        have e : zPro N F (nI i) 7 = if F 5 i = 2 then F 8 i else -7 := by rw [zPro, if_pos c1, ix_nI (by omega)]; rfl
        refine jj_icmp_ne 173 rfl rfl (fun (c2 : ¬ F 5 i = 2) => ?_) (fun (c2 : F 5 i = 2) => ?_)
        · refine jj_s (pc' := 175) rfl rfl ?_
          exact jj_iret rfl rfl ⟨by rw [e, if_neg c2]; rfl, rfl, fin _ _ _⟩
        · refine jj_s (pc' := 162) rfl rfl ?_
          refine jj_g rfl rfl (dO _ _ _) rfl ?_
          refine jj_g rfl rfl wQ_o rfl ?_
          refine jj_s (pc' := 169) rfl rfl ?_
          refine jj_qld [] rfl rfl (by decide) (by first | assumption | omega) ?_
          refine jj_s (pc' := 175) rfl rfl ?_
          exact jj_iret rfl rfl ⟨by rw [e, if_pos c2], rfl, fin _ _ _⟩
  · refine jj_s (pc' := 12) rfl rfl ?_
    exact jj_iret rfl rfl ⟨by rw [zPro, if_neg (by rw [c1]; decide)]; rfl, rfl, fin _ _ _⟩
set_option maxHeartbeats 4000000 in
set_option maxRecDepth 100000 in
 theorem d_before {G : GC} {B n N : Nat} {S : Nat → Int32} {F : Nat → Nat → Int32} {f : Nat → Option Nat} {wl : Int32} {pt : Nat → Int32} {len : Nat} {C : Nat → Int32} {h : HT} (hN : N ≤ 20) (hC : CL B N S F f wl pt len C h) (x : Int32) (bf : Nat → Int32) (hbf : ∀ P i, i < N → bfS F N P 0 i = bf i) : CtJ G B M8_before [.ref (B + 0), .int x] n h 0 0 (fun r2 n2 h2 => r2 = some (.int (zRow N bf x)) ∧ n2 = n ∧ CL B N S F f wl pt len C h2 ∧ tl51 h h2) := by
  obtain ⟨P, Wr, V, Lr, Cr, w, mb, nd, a, Nd, Sd, Fd, hc, hpt⟩ := hC
  have hp : h = wA 16 3 (pob B 16 1) P h := hc.2.2.2.1.id
  have dO : ∀ N S F, wQ B 1 N S F h 0 = some (dob B) := fun N S F => (wQ_n (by omega)).trans hc.1
  have dP : ∀ N S F P, wQ B 1 N S F (wA 16 3 (pob B 16 1) P h) 0 = some (dob B) := fun N S F P => (wQ_n (by omega)).trans ((wA_n (by omega)).trans hc.1)
  have fin : ∀ N' S' F', CL B N' S' F' f wl pt len C (wQ B 1 N' S' F' h) ∧ tl51 h (wQ B 1 N' S' F' h) := fun N' S' F' => ⟨⟨P, Wr, V, Lr, Cr, w, mb, nd, a, Nd, Sd, Fd, hc.q _ _ _, hpt⟩, fun k hk => wQ_n (by omega)⟩
  have finp : ∀ N' S' F' P', CL B N' S' F' f wl pt len C (wQ B 1 N' S' F' (wA 16 3 (pob B 16 1) P' h)) ∧ tl51 h (wQ B 1 N' S' F' (wA 16 3 (pob B 16 1) P' h)) := fun N' S' F' P' => ⟨⟨P', Wr, V, Lr, Cr, w, mb, nd, a, Nd, Sd, Fd, (hc.p P').q _ _ _, hpt⟩, fun k hk => (wQ_n (by omega)).trans (wA_n (by omega))⟩
  unfold CtJ
  refine jj_lv (lv' := [some (.ref (B + 0)), some (.int x)]) rfl ?_
  refine jj_h (h' := wQ B 1 N S F h) hc.2.1.id ?_
  refine jj_s (pc' := 1) rfl rfl ?_
  refine jj_g rfl rfl (dO _ _ _) rfl ?_
  refine jj_s (pc' := 5) rfl rfl ?_
  refine jj_v1 rfl rfl rfl wQ_o rfl rfl (c_holds _) ?_
  refine jj_zT 23 rfl rfl (fun (c1 : isN N x = false) => ?_) (fun (c1 : isN N x = true) => ?_)
  · refine jj_s (pc' := 24) rfl rfl ?_
    exact jj_iret rfl rfl ⟨by rw [zRow, if_neg (by rw [c1]; decide)]; rfl, rfl, fin _ _ _⟩
  · obtain ⟨i, hi, rfl⟩ := isN_of hN c1
    refine jj_h (h' := wQ B 1 N S F (wA 16 3 (pob B 16 1) P h)) (by rw [← hp]) ?_
    refine jj_s (pc' := 12) rfl rfl ?_
    refine jj_g rfl rfl (dP _ _ _ _) rfl ?_
    refine jj_v0 rfl rfl rfl (wQA_o (by omega)) rfl rfl (c_beforeSets hN (by omega)) ?_
    refine jj_s (pc' := 19) rfl rfl ?_
    refine jj_ald2 (o := 16) (j := 0) rfl (by decide) (by omega) (by omega) ?_
    refine jj_s (pc' := 24) rfl rfl ?_
    exact jj_iret rfl rfl ⟨by rw [zRow, if_pos c1, ix_nI (by omega), hbf P i hi], rfl, finp _ _ _ _⟩
set_option maxHeartbeats 4000000 in
set_option maxRecDepth 100000 in
 theorem d_height {G : GC} {B n N : Nat} {S : Nat → Int32} {F : Nat → Nat → Int32} {f : Nat → Option Nat} {wl : Int32} {pt : Nat → Int32} {len : Nat} {C : Nat → Int32} {h : HT} (hN : N ≤ 20) (hC : CL B N S F f wl pt len C h) (x : Int32) (hg : Nat → Int32) (hhg : ∀ P i, i < N → htS F N P 1 i = hg i) : CtJ G B M8_height [.ref (B + 0), .int x] n h 0 0 (fun r2 n2 h2 => r2 = some (.int (zRow N hg x)) ∧ n2 = n ∧ CL B N S F f wl pt len C h2 ∧ tl51 h h2) := by
  obtain ⟨P, Wr, V, Lr, Cr, w, mb, nd, a, Nd, Sd, Fd, hc, hpt⟩ := hC
  have hp : h = wA 16 3 (pob B 16 1) P h := hc.2.2.2.1.id
  have dO : ∀ N S F, wQ B 1 N S F h 0 = some (dob B) := fun N S F => (wQ_n (by omega)).trans hc.1
  have dP : ∀ N S F P, wQ B 1 N S F (wA 16 3 (pob B 16 1) P h) 0 = some (dob B) := fun N S F P => (wQ_n (by omega)).trans ((wA_n (by omega)).trans hc.1)
  have fin : ∀ N' S' F', CL B N' S' F' f wl pt len C (wQ B 1 N' S' F' h) ∧ tl51 h (wQ B 1 N' S' F' h) := fun N' S' F' => ⟨⟨P, Wr, V, Lr, Cr, w, mb, nd, a, Nd, Sd, Fd, hc.q _ _ _, hpt⟩, fun k hk => wQ_n (by omega)⟩
  have finp : ∀ N' S' F' P', CL B N' S' F' f wl pt len C (wQ B 1 N' S' F' (wA 16 3 (pob B 16 1) P' h)) ∧ tl51 h (wQ B 1 N' S' F' (wA 16 3 (pob B 16 1) P' h)) := fun N' S' F' P' => ⟨⟨P', Wr, V, Lr, Cr, w, mb, nd, a, Nd, Sd, Fd, (hc.p P').q _ _ _, hpt⟩, fun k hk => (wQ_n (by omega)).trans (wA_n (by omega))⟩
  unfold CtJ
  refine jj_lv (lv' := [some (.ref (B + 0)), some (.int x)]) rfl ?_
  refine jj_h (h' := wQ B 1 N S F h) hc.2.1.id ?_
  refine jj_s (pc' := 1) rfl rfl ?_
  refine jj_g rfl rfl (dO _ _ _) rfl ?_
  refine jj_s (pc' := 5) rfl rfl ?_
  refine jj_v1 rfl rfl rfl wQ_o rfl rfl (c_holds _) ?_
  refine jj_zT 23 rfl rfl (fun (c1 : isN N x = false) => ?_) (fun (c1 : isN N x = true) => ?_)
  · refine jj_s (pc' := 24) rfl rfl ?_
    exact jj_iret rfl rfl ⟨by rw [zRow, if_neg (by rw [c1]; decide)]; rfl, rfl, fin _ _ _⟩
  · obtain ⟨i, hi, rfl⟩ := isN_of hN c1
    refine jj_h (h' := wQ B 1 N S F (wA 16 3 (pob B 16 1) P h)) (by rw [← hp]) ?_
    refine jj_s (pc' := 12) rfl rfl ?_
    refine jj_g rfl rfl (dP _ _ _ _) rfl ?_
    refine jj_v0 rfl rfl rfl (wQA_o (by omega)) rfl rfl (c_heights hN (by omega)) ?_
    refine jj_s (pc' := 19) rfl rfl ?_
    refine jj_ald2 (o := 16) (j := 1) rfl (by decide) (by omega) (by omega) ?_
    refine jj_s (pc' := 24) rfl rfl ?_
    exact jj_iret rfl rfl ⟨by rw [zRow, if_pos c1, ix_nI (by omega), hhg P i hi], rfl, finp _ _ _ _⟩
set_option maxHeartbeats 4000000 in
set_option maxRecDepth 100000 in
 theorem d_rank {G : GC} {B n N : Nat} {S : Nat → Int32} {F : Nat → Nat → Int32} {f : Nat → Option Nat} {wl : Int32} {pt : Nat → Int32} {len : Nat} {C : Nat → Int32} {h : HT} (hN : N ≤ 20) (hC : CL B N S F f wl pt len C h) (x : Int32) (hg : Nat → Int32) (hhg : ∀ P i, i < N → htS F N P 1 i = hg i) : CtJ G B M8_rank [.ref (B + 0), .int x] n h 0 0 (fun r2 n2 h2 => r2 = some (.int (zRow N (fun i => rkN S F i (hg i)) x)) ∧ n2 = n ∧ CL B N S F f wl pt len C h2 ∧ tl51 h h2) := by
  obtain ⟨P, Wr, V, Lr, Cr, w, mb, nd, a, Nd, Sd, Fd, hc, hpt⟩ := hC
  have hp : h = wA 16 3 (pob B 16 1) P h := hc.2.2.2.1.id
  have dO : ∀ N S F, wQ B 1 N S F h 0 = some (dob B) := fun N S F => (wQ_n (by omega)).trans hc.1
  have dP : ∀ N S F P, wQ B 1 N S F (wA 16 3 (pob B 16 1) P h) 0 = some (dob B) := fun N S F P => (wQ_n (by omega)).trans ((wA_n (by omega)).trans hc.1)
  have fin : ∀ N' S' F', CL B N' S' F' f wl pt len C (wQ B 1 N' S' F' h) ∧ tl51 h (wQ B 1 N' S' F' h) := fun N' S' F' => ⟨⟨P, Wr, V, Lr, Cr, w, mb, nd, a, Nd, Sd, Fd, hc.q _ _ _, hpt⟩, fun k hk => wQ_n (by omega)⟩
  have finp : ∀ N' S' F' P', CL B N' S' F' f wl pt len C (wQ B 1 N' S' F' (wA 16 3 (pob B 16 1) P' h)) ∧ tl51 h (wQ B 1 N' S' F' (wA 16 3 (pob B 16 1) P' h)) := fun N' S' F' P' => ⟨⟨P', Wr, V, Lr, Cr, w, mb, nd, a, Nd, Sd, Fd, (hc.p P').q _ _ _, hpt⟩, fun k hk => (wQ_n (by omega)).trans (wA_n (by omega))⟩
  unfold CtJ
  refine jj_lv (lv' := [some (.ref (B + 0)), some (.int x)]) rfl ?_
  refine jj_h (h' := wQ B 1 N S F h) hc.2.1.id ?_
  refine jj_s (pc' := 1) rfl rfl ?_
  refine jj_g rfl rfl (dO _ _ _) rfl ?_
  refine jj_s (pc' := 5) rfl rfl ?_
  refine jj_v1 rfl rfl rfl wQ_o rfl rfl (c_holds _) ?_
  refine jj_zF 13 rfl rfl (fun (c1 : isN N x = true) => ?_) (fun (c1 : isN N x = false) => ?_)
  · obtain ⟨i, hi, rfl⟩ := isN_of hN c1
    refine jj_h (h' := wQ B 1 N S F (wA 16 3 (pob B 16 1) P h)) (by rw [← hp]) ?_
    refine jj_s (pc' := 14) rfl rfl ?_
    refine jj_g rfl rfl (dP _ _ _ _) rfl ?_
    refine jj_s (pc' := 18) rfl rfl ?_
    refine jj_s (pc' := 19) rfl rfl ?_
    refine jj_g rfl rfl (dP _ _ _ _) rfl ?_
    refine jj_v0 rfl rfl rfl (wQA_o (by omega)) rfl rfl (c_heights hN (by omega)) ?_
    refine jj_s (pc' := 26) rfl rfl ?_
    refine jj_ald2 (o := 16) (j := 1) rfl (by decide) (by omega) (by omega) ?_
    refine jj_v2 rfl rfl rfl wQ_o rfl rfl (c_rankNow (by omega) _) ?_
    exact jj_iret rfl rfl ⟨by rw [zRow, if_pos c1, ix_nI (by omega), hhg P i hi], rfl, finp _ _ _ _⟩
  · refine jj_s (pc' := 12) rfl rfl ?_
    exact jj_iret rfl rfl ⟨by rw [zRow, if_neg (by rw [c1]; decide)]; rfl, rfl, fin _ _ _⟩
theorem pkB_cong {P : Nat → Bool} {R R' : Nat → Int32} {k : Nat} (h : ∀ i, i < k → R i = R' i) : pkB P R k = pkB P R' k := by
  induction k with
  | zero => rfl
  | succ k ih =>
    have e := ih (fun i hi => h i (by omega))
    cases hp : pkB P R k with
    | none =>
      rw [pkB, pkB, ← e, hp]
    | some b =>
      have hb := (pkB_lt _ _ _ _ hp).1
      rw [pkB, pkB, ← e, hp]
      dsimp only
      rw [h b (by omega), h k (by omega)]
def zRec (N : Nat) (S : Nat → Int32) (F : Nat → Nat → Int32) (hg : Nat → Int32) (v : Int32) : Int32 × (Nat → Int32) × (Nat → Nat → Int32) := if wth v 1 30 = true then (match pkB (cbr S F N) (fun i => rkN S F i (hg i)) N with
  | none => (-7, S, F)
  | some b => (nI b, upd S 4 (S 4 + 1), toF S F b v)) else (-2, S, F)
set_option maxHeartbeats 4000000 in
set_option maxRecDepth 100000 in
 theorem d_receive {G : GC} {B n N : Nat} {S : Nat → Int32} {F : Nat → Nat → Int32} {f : Nat → Option Nat} {wl : Int32} {pt : Nat → Int32} {len : Nat} {C : Nat → Int32} {h : HT} (hN : N ≤ 20) (hC : CL B N S F f wl pt len C h) (v : Int32) (hg : Nat → Int32) (hhg : ∀ P i, i < N → htS F N P 1 i = hg i) : CtJ G B M8_receive [.ref (B + 0), .int v] n h 0 0 (fun r2 n2 h2 => r2 = some (.int ((zRec N S F hg v).1)) ∧ n2 = n ∧ CL B N (zRec N S F hg v).2.1 (zRec N S F hg v).2.2 f wl pt len C h2 ∧ tl51 h h2) := by
  obtain ⟨P, Wr, V, Lr, Cr, w, mb, nd, a, Nd, Sd, Fd, hc, hpt⟩ := hC
  have hp : h = wA 16 3 (pob B 16 1) P h := hc.2.2.2.1.id
  have dO : ∀ N S F, wQ B 1 N S F h 0 = some (dob B) := fun N S F => (wQ_n (by omega)).trans hc.1
  have dP : ∀ N S F P, wQ B 1 N S F (wA 16 3 (pob B 16 1) P h) 0 = some (dob B) := fun N S F P => (wQ_n (by omega)).trans ((wA_n (by omega)).trans hc.1)
  have fin : ∀ N' S' F', CL B N' S' F' f wl pt len C (wQ B 1 N' S' F' h) ∧ tl51 h (wQ B 1 N' S' F' h) := fun N' S' F' => ⟨⟨P, Wr, V, Lr, Cr, w, mb, nd, a, Nd, Sd, Fd, hc.q _ _ _, hpt⟩, fun k hk => wQ_n (by omega)⟩
  have finp : ∀ N' S' F' P', CL B N' S' F' f wl pt len C (wQ B 1 N' S' F' (wA 16 3 (pob B 16 1) P' h)) ∧ tl51 h (wQ B 1 N' S' F' (wA 16 3 (pob B 16 1) P' h)) := fun N' S' F' P' => ⟨⟨P', Wr, V, Lr, Cr, w, mb, nd, a, Nd, Sd, Fd, (hc.p P').q _ _ _, hpt⟩, fun k hk => (wQ_n (by omega)).trans (wA_n (by omega))⟩
  unfold CtJ
  refine jj_lv (lv' := [some (.ref (B + 0)), some (.int v), none]) rfl ?_
  refine jj_h (h' := wQ B 1 N S F h) hc.2.1.id ?_
  refine jj_s (pc' := 1) rfl rfl ?_
  refine jj_s (pc' := 2) rfl rfl ?_
  refine jj_s (pc' := 4) rfl rfl ?_
  refine jj_t3 rfl rfl rfl rfl rfl (c_isWithin _ _ _) ?_
  refine jj_zF 13 rfl rfl (fun (c1 : wth v 1 30 = true) => ?_) (fun (c1 : wth v 1 30 = false) => ?_)
  · refine jj_h (h' := wQ B 1 N S F (wA 16 3 (pob B 16 1) P h)) (by rw [← hp]) ?_
    refine jj_s (pc' := 14) rfl rfl ?_
    refine jj_g rfl rfl (dP _ _ _ _) rfl ?_
    refine jj_s (pc' := 18) rfl rfl ?_
    refine jj_g rfl rfl (dP _ _ _ _) rfl ?_
    refine jj_v0 rfl rfl rfl (wQA_o (by omega)) rfl rfl (c_heights hN (by omega)) ?_
    refine jj_v1 rfl rfl rfl wQ_o rfl rfl (c_nextToReceive hN (a := 18) (wQA_a (o := 16) (j := 1) (by decide) (by omega))) ?_
    rw [pkB_cong (R' := fun i => rkN S F i (hg i)) (fun i hi => by rw [hhg P i hi])]
    cases hb : pkB (cbr S F N) (fun i => rkN S F i (hg i)) N with
    | none =>
      have e : zRec N S F hg v = (-7, S, F) := by rw [zRec, if_pos c1, hb]
      rw [e]
      refine jj_s (pc' := 28) rfl rfl ?_
      refine jj_s (pc' := 29) rfl rfl ?_
      refine jj_g rfl rfl (dP _ _ _ _) rfl ?_
      refine jj_s (pc' := 33) rfl rfl ?_
      refine jj_v1 rfl rfl rfl wQ_o rfl rfl (c_holds _) ?_
      refine jj_zT 48 rfl rfl (fun c3 => ?_) (fun c3 => absurd c3 (by simp [enc]))
      refine jj_s (pc' := 49) rfl rfl ?_
      exact jj_iret rfl rfl ⟨rfl, rfl, finp _ _ _ _⟩
    | some b =>
      have hbN := (pkB_lt _ _ _ _ hb).1
      have e : zRec N S F hg v = (nI b, upd S 4 (S 4 + 1), toF S F b v) := by rw [zRec, if_pos c1, hb]
      rw [e]
      refine jj_s (pc' := 28) rfl rfl ?_
      refine jj_s (pc' := 29) rfl rfl ?_
      refine jj_g rfl rfl (dP _ _ _ _) rfl ?_
      refine jj_s (pc' := 33) rfl rfl ?_
      refine jj_v1 rfl rfl rfl wQ_o rfl rfl (c_holds _) ?_
      refine jj_zT 48 rfl rfl (fun c3 => absurd (show 0 ≤ enc (some b) ∧ enc (some b) < nI N from ⟨nI_pos' (by omega), nI_lt hbN (by omega)⟩) (of_decide_eq_false c3)) (fun c3 => ?_)
      refine jj_s (pc' := 40) rfl rfl ?_
      refine jj_g rfl rfl (dP _ _ _ _) rfl ?_
      refine jj_s (pc' := 44) rfl rfl ?_
      refine jj_s (pc' := 45) rfl rfl ?_
      refine jj_w2 rfl rfl rfl wQ_o rfl rfl (c_takeOut (by omega) _) ?_
      refine jj_s (pc' := 49) rfl rfl ?_
      exact jj_iret rfl rfl ⟨rfl, rfl, finp _ _ _ _⟩
  · have e : zRec N S F hg v = (-2, S, F) := by rw [zRec, if_neg (by rw [c1]; decide)]
    rw [e]
    refine jj_s (pc' := 12) rfl rfl ?_
    exact jj_iret rfl rfl ⟨rfl, rfl, fin _ _ _⟩
theorem anyN_cong {P P' : Nat → Bool} {k : Nat} (h : ∀ i, i < k → P i = P' i) : anyN P k = anyN P' k := by
  induction k with
  | zero => rfl
  | succ k ih => rw [anyN, anyN, ih (fun i hi => h i (by omega)), h k (by omega)]
def zSup (N : Nat) (F : Nat → Nat → Int32) (bf : Nat → Int32) (x y : Int32) : Int32 := if (isN N x && isN N y) = true then (if bt (prd F (ix y)) (ix x) = true then bI (anyN (fun k => bt (prd F (ix y)) k && bt (bf k) (ix x)) N) else -7) else -1
set_option maxHeartbeats 4000000 in
set_option maxRecDepth 100000 in
 theorem d_isSuperfluous {G : GC} {B n N : Nat} {S : Nat → Int32} {F : Nat → Nat → Int32} {f : Nat → Option Nat} {wl : Int32} {pt : Nat → Int32} {len : Nat} {C : Nat → Int32} {h : HT} (hN : N ≤ 20) (hC : CL B N S F f wl pt len C h) (x y : Int32) (bf : Nat → Int32) (hbf : ∀ P i, i < N → bfS F N P 0 i = bf i) : CtJ G B M8_isSuperfluous [.ref (B + 0), .int x, .int y] n h 0 0 (fun r2 n2 h2 => r2 = some (.int (zSup N F bf x y)) ∧ n2 = n ∧ CL B N S F f wl pt len C h2 ∧ tl51 h h2) := by
  obtain ⟨P, Wr, V, Lr, Cr, w, mb, nd, a, Nd, Sd, Fd, hc, hpt⟩ := hC
  have hp : h = wA 16 3 (pob B 16 1) P h := hc.2.2.2.1.id
  have dO : ∀ N S F, wQ B 1 N S F h 0 = some (dob B) := fun N S F => (wQ_n (by omega)).trans hc.1
  have dP : ∀ N S F P, wQ B 1 N S F (wA 16 3 (pob B 16 1) P h) 0 = some (dob B) := fun N S F P => (wQ_n (by omega)).trans ((wA_n (by omega)).trans hc.1)
  have fin : ∀ N' S' F', CL B N' S' F' f wl pt len C (wQ B 1 N' S' F' h) ∧ tl51 h (wQ B 1 N' S' F' h) := fun N' S' F' => ⟨⟨P, Wr, V, Lr, Cr, w, mb, nd, a, Nd, Sd, Fd, hc.q _ _ _, hpt⟩, fun k hk => wQ_n (by omega)⟩
  have finp : ∀ N' S' F' P', CL B N' S' F' f wl pt len C (wQ B 1 N' S' F' (wA 16 3 (pob B 16 1) P' h)) ∧ tl51 h (wQ B 1 N' S' F' (wA 16 3 (pob B 16 1) P' h)) := fun N' S' F' P' => ⟨⟨P', Wr, V, Lr, Cr, w, mb, nd, a, Nd, Sd, Fd, (hc.p P').q _ _ _, hpt⟩, fun k hk => (wQ_n (by omega)).trans (wA_n (by omega))⟩
  unfold CtJ
  refine jj_lv (lv' := [some (.ref (B + 0)), some (.int x), some (.int y)]) rfl ?_
  refine jj_h (h' := wQ B 1 N S F h) hc.2.1.id ?_
  have bad : (isN N x && isN N y) = false → JJ X0 G B M8_isSuperfluous 22 [some (.ref (B + 0)), some (.int x), some (.int y)] [] n (wQ B 1 N S F h) 0 0 (fun r2 n2 h2 => r2 = some (.int (zSup N F bf x y)) ∧ n2 = n ∧ CL B N S F f wl pt len C h2 ∧ tl51 h h2) := by
    intro hb
    refine jj_s (pc' := 23) rfl rfl ?_
    exact jj_iret rfl rfl ⟨by rw [zSup, if_neg (by rw [hb]; decide)]; rfl, rfl, fin _ _ _⟩
  refine jj_s (pc' := 1) rfl rfl ?_
  refine jj_g rfl rfl (dO _ _ _) rfl ?_
  refine jj_s (pc' := 5) rfl rfl ?_
  refine jj_v1 rfl rfl rfl wQ_o rfl rfl (c_holds _) ?_
  refine jj_zT 22 rfl rfl (fun c1 => bad (by rw [show isN N x = false from c1]; rfl)) (fun c1 => ?_)
  refine jj_s (pc' := 12) rfl rfl ?_
  refine jj_g rfl rfl (dO _ _ _) rfl ?_
  refine jj_s (pc' := 16) rfl rfl ?_
  refine jj_v1 rfl rfl rfl wQ_o rfl rfl (c_holds _) ?_
  refine jj_zF 24 rfl rfl (fun c2 => ?_) (fun c2 => bad (by rw [show isN N y = false from c2]; simp))
  have ok : (isN N x && isN N y) = true := by rw [show isN N x = true from c1, show isN N y = true from c2]; rfl
  obtain ⟨i, hi, rfl⟩ := isN_of hN c1
  obtain ⟨j, hj, rfl⟩ := isN_of hN c2
  refine jj_s (pc' := 25) rfl rfl ?_
  refine jj_g rfl rfl (dO _ _ _) rfl ?_
  refine jj_s (pc' := 29) rfl rfl ?_
  refine jj_v1 rfl rfl rfl wQ_o rfl rfl (c_predecessors (by omega)) ?_
  refine jj_s (pc' := 33) rfl rfl ?_
  refine jj_t2 rfl rfl rfl rfl rfl (c_has (by omega)) ?_
  refine jj_zF 42 rfl rfl (fun c3 => ?_) (fun c3 => ?_)
  · refine jj_h (h' := wQ B 1 N S F (wA 16 3 (pob B 16 1) P h)) (by rw [← hp]) ?_
    refine jj_s (pc' := 43) rfl rfl ?_
    refine jj_g rfl rfl (dP _ _ _ _) rfl ?_
    refine jj_s (pc' := 47) rfl rfl ?_
    refine jj_s (pc' := 48) rfl rfl ?_
    refine jj_v2 rfl rfl rfl (wQA_o (by omega)) rfl rfl (c_hasDetour hN (by omega) (by omega) (by omega)) ?_
    have e : zSup N F bf (nI i) (nI j) = bI (anyN (fun k => bt (prd F j) k && bt (bfS F N P 0 k) i) N) := by
      rw [zSup, if_pos ok, ix_nI (by omega), ix_nI (by omega), if_pos c3]
      rw [anyN_cong (P' := fun k => bt (prd F j) k && bt (bfS F N P 0 k) i) (fun k hk => by rw [hbf P k hk])]
    refine jj_zT 58 rfl rfl (fun c4 => ?_) (fun c4 => ?_)
    · refine jj_s (pc' := 59) rfl rfl ?_
      exact jj_iret rfl rfl ⟨by rw [e, c4]; rfl, rfl, finp _ _ _ _⟩
    · refine jj_s (pc' := 55) rfl rfl ?_
      refine jj_s (pc' := 59) rfl rfl ?_
      exact jj_iret rfl rfl ⟨by rw [e, c4]; rfl, rfl, finp _ _ _ _⟩
  · refine jj_s (pc' := 41) rfl rfl ?_
    exact jj_iret rfl rfl ⟨by rw [zSup, if_pos ok, ix_nI (by omega), ix_nI (by omega), if_neg (by rw [c3]; decide)]; rfl, rfl, fin _ _ _⟩
