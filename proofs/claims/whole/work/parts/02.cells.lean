/-! the machine under a picture: cells by number, refs are 'B + number' -/
abbrev AE : Type := vp_A ⊕ (Nat × List Value)
abbrev HT : Type := Nat → Option AE
abbrev GC : Type := va_G × ClassId × ClassId × ClassId
abbrev ia (n : Nat) (f : Nat → Int32) : AE := .inl (n, .inl f)
abbrev la (n : Nat) (f : Nat → Int64) : AE := .inl (n, .inr (.inl f))
abbrev qa (n : Nat) (f : Nat → Option Nat) : AE := .inl (n, .inr (.inr (.inr (.inr f))))
abbrev ob (ci : Nat) (fs : List Value) : AE := .inr (ci, fs)
def cvE (G : GC) : AE → va_E
  | .inr o => .inr o
  | .inl (n, .inl f) => .inl (G.2.1, n, .inl f)
  | .inl (n, .inr (.inl f)) => .inl (G.2.2.1, n, .inr (.inl f))
  | .inl (n, .inr (.inr r)) => .inl (G.2.2.2, n, .inr (.inr r))
def wd (G : GC) (B n : Nat) (h : HT) : va_W := (List.range n).map fun k => (B + k, cvE G ((h k).getD (.inr (0, []))))
def hu (h : HT) (k : Nat) (e : AE) : HT := fun j => if j = k then some e else h j
theorem hu_s (h : HT) (k : Nat) (e : AE) : hu h k e k = some e := if_pos rfl
theorem hu_n (h : HT) (k : Nat) (e : AE) {j : Nat} (hj : j ≠ k) : hu h k e j = h j := if_neg hj
theorem wd_get {G : GC} {B n : Nat} {h : HT} {k : Nat} {e : AE} (hk : k < n) (he : h k = some e) : (wd G B n h)[k]? = some (B + k, cvE G e) := by
  simp [wd, hk, he]
theorem wd_set {G : GC} {B n : Nat} {h : HT} {k : Nat} {e : AE} : (wd G B n h).set k (B + k, cvE G e) = wd G B n (hu h k e) := by
  apply List.ext_getElem?
  intro j
  by_cases hj : j = k
  · subst hj
    by_cases hn : j < n
    · simp [wd, hn, hu_s]
    · simp [wd, hn]
  · rw [List.getElem?_set_ne (fun q => hj q.symm)]
    by_cases hn : j < n
    · simp [wd, hn, hu_n h k e hj]
    · simp [wd, hn]
theorem wd_push {G : GC} {B n : Nat} {h : HT} {e : AE} : wd G B n h ++ [(B + n, cvE G e)] = wd G B (n + 1) (hu h n e) := by
  unfold wd
  rw [List.range_succ, List.map_append]
  congr 1
  · apply List.map_congr_left
    intro k hk
    rw [hu_n h n e (Nat.ne_of_lt (List.mem_range.mp hk))]
  · simp [hu_s]
theorem wd_D {G : GC} {B n : Nat} {h : HT} : va_D (fun q => B ≤ q) (wd G B n h) := by
  refine ⟨fun i j p q hi hj hpq => ?_, fun k q hk => ?_⟩
  · unfold wd at hi hj
    rw [List.getElem?_map] at hi hj
    cases h1 : (List.range n)[i]? with
    | none => rw [h1] at hi; cases hi
    | some a =>
      cases h2 : (List.range n)[j]? with
      | none => rw [h2] at hj; cases hj
      | some b =>
        rw [h1] at hi; rw [h2] at hj
        have e1 : p.1 = B + a := by cases hi; rfl
        have e2 : q.1 = B + b := by cases hj; rfl
        have g1 : a = i := by
          obtain ⟨_, g⟩ := List.getElem?_eq_some_iff.mp h1
          rw [← g, List.getElem_range]
        have g2 : b = j := by
          obtain ⟨_, g⟩ := List.getElem?_eq_some_iff.mp h2
          rw [← g, List.getElem_range]
        omega
  · unfold wd at hk
    rw [List.getElem?_map] at hk
    cases h1 : (List.range n)[k]? with
    | none => rw [h1] at hk; cases hk
    | some a => rw [h1] at hk; cases hk; exact Nat.le_add_right _ _
def tysG (G : GC) : List (ClassId × FieldType) := [(G.2.1, .int), (G.2.2.1, .long), (G.2.2.2, .object "DependencyQueue$Queue")]
def HOk (n : Nat) (h : HT) : Prop := ∀ k, h k = none ↔ n ≤ k
theorem HOk.lt {n : Nat} {h : HT} (H : HOk n h) {k : Nat} {e : AE} (he : h k = some e) : k < n := Nat.not_le.mp fun q => by rw [(H k).mpr q] at he; cases he
theorem HOk.set {n : Nat} {h : HT} (H : HOk n h) {k : Nat} {e0 e : AE} (he : h k = some e0) : HOk n (hu h k e) := by
  intro j
  by_cases hj : j = k
  · subst hj
    rw [hu_s]
    have := H.lt he
    exact ⟨fun q => (by cases q), fun q => (by omega)⟩
  · rw [hu_n h k e hj]
    exact H j
theorem HOk.push {n : Nat} {h : HT} (H : HOk n h) {e : AE} : HOk (n + 1) (hu h n e) := by
  intro j
  by_cases hj : j = n
  · subst hj
    rw [hu_s]
    exact ⟨fun q => (by cases q), fun q => (by omega)⟩
  · rw [hu_n h n e hj]
    have := H j
    constructor
    · intro q
      have := this.mp q
      omega
    · intro q
      exact this.mpr (by omega)
/-! methods -/
abbrev MT : Type := Nat × MethodName × ByteArray × Nat × Option FieldType × Nat × Nat × Nat × List (Option Instr)
abbrev M_own (y : MT) : Nat := y.1
abbrev M_nm (y : MT) : MethodName := y.2.1
abbrev M_by (y : MT) : ByteArray := y.2.2.1
abbrev M_ml (y : MT) : Nat := y.2.2.2.1
abbrev M_rt (y : MT) : Option FieldType := y.2.2.2.2.1
abbrev M_np (y : MT) : Nat := y.2.2.2.2.2.1
abbrev M_fr (y : MT) : Nat := y.2.2.2.2.2.2.1
abbrev M_lo (y : MT) : Nat := y.2.2.2.2.2.2.2.1
abbrev M_tb (y : MT) : List (Option Instr) := y.2.2.2.2.2.2.2.2
def lk : List (Option Instr) → Nat → Option Instr
  | [], _ => none
  | a :: _, 0 => a
  | _ :: l, n + 1 => lk l n
theorem lk_get (l : List (Option Instr)) (n : Nat) (i : Instr) (h : lk l n = some i) : n < l.length := by
  induction l generalizing n with
  | nil => cases h
  | cons a l ih =>
    cases n with
    | zero => simp
    | succ n => have := ih n h; simp; omega
/-- how long an instruction is; 0: it differs -/
def ilen : Instr → Nat
  | .tableswitch .. => 0
  | .bipush _ => 2 | .iload _ => 2 | .istore _ => 2 | .aload _ => 2 | .astore _ => 2 | .newarray _ => 2
  | .sipush _ => 3 | .iinc .. => 3 | .goto _ => 3 | .if_icmp .. => 3 | .ifCond .. => 3 | .ifnonnull _ => 3 | .getfield _ => 3 | .putfield _ => 3
  | .invokevirtual _ => 3 | .invokestatic _ => 3 | .invokespecial _ => 3 | .new _ => 3 | .anewarray _ => 3 | .ldc2_w _ => 3 | .ldc_w _ => 3
  | _ => 1
def TbOk (y : MT) : Prop := ∀ pc i, lk (M_tb y) pc = some i → ∃ len, decode (M_by y) pc = .ok (i, len) ∧ (ilen i = 0 ∨ len = ilen i)
theorem TbOk.at {y : MT} (h : TbOk y) {pc L : Nat} {i : Instr} (hd : lk (M_tb y) pc = some i) (hl : ilen i = L + 1) : decode (M_by y) pc = .ok (i, L + 1) := by
  obtain ⟨len, h1, h2⟩ := h pc i hd
  rw [hl] at h2
  rcases h2 with h2 | h2
  · cases h2
  · rw [h1, h2]
def chkT (b : ByteArray) (tb : List (Option Instr)) : Bool := (List.range tb.length).all fun pc => match lk tb pc with
  | none => true
  | some i => match decode b pc with
    | .ok (j, len) => decide (j = i) && (ilen i == 0 || len == ilen i)
    | .error _ => false
theorem TbOk_of {y : MT} (h : chkT (M_by y) (M_tb y) = true) : TbOk y := by
  intro pc i hi
  have h1 := List.all_eq_true.mp h pc (List.mem_range.mpr (lk_get _ _ _ hi))
  rw [hi] at h1
  dsimp only at h1
  split at h1
  next j len hd =>
    simp only [Bool.and_eq_true, decide_eq_true_eq, Bool.or_eq_true, beq_iff_eq] at h1
    obtain ⟨rfl, h3⟩ := h1
    exact ⟨len, hd, h3⟩
  next => cases h1
/-! what the tables say -/
def tW : List Cond := lw_tbl.filter goodWord
theorem tW_in {w : Cond} (h : w ∈ lw_tbl) (g : goodWord w = true) : w ∈ tW := List.mem_filter.mpr ⟨h, g⟩
theorem tW_good : GoodIn tW tW := fun w h => ⟨h, good_of_word (List.mem_filter.mp h).2⟩
def nstL : List (String × Nat × MethodName × String) := [("DependencyQueue", 9, yX5_init, "DependencyQueue"), ("DependencyQueue", 31, yX7_init, "DependencyQueue"), ("DependencyQueue", 38, yX4_init, "DependencyQueue"), ("DependencyQueue", 45, yX1_init, "DependencyQueue"), ("DependencyQueue", 52, yX2_init, "DependencyQueue"), ("DependencyQueue", 59, yX6_init, "DependencyQueue"), ("DependencyQueue$Text", 17, yX5_init, "DependencyQueue"), ("DependencyQueue$Text", 50, yX8_isWithin, "DependencyQueue")]
def XW (s : State) : Prop := (∀ q ∈ nstL, va_Nw (.methodLinkNest q.1 q.2.1 q.2.2.1 q.2.2.2) s) ∧ va_AO "DependencyQueue$Queue" s
theorem XW.moved {s U : State} (hW : s.WarmedH U.vm) (h : XW s) : XW U := ⟨fun q hq => va_Nw.warmM hW (h.1 q hq), va_AO.moved hW.alike h.2⟩
abbrev clG : List vw_C := [(RX1, TX1, 3), (RX1, TX1, 3), (RX2, TX2, 3), (RX3, TX3, 4), (RX4, TX4, 8), (RX5, TX5, 18), (RX6, TX6, 4), (RX7, TX7, 3), (RX8, TX8, 8), (RX9, TX9, 26)]
/-- the types of the fields, class by class -/
def tyG : Nat → Nat → FieldType := fun c => match c with
  | 0 => tyX1 | 1 => tyX1 | 2 => tyX2 | 3 => tyX3 | 4 => tyX4 | 5 => tyX5 | 6 => tyX6 | 7 => tyX7 | 8 => tyX8 | _ => tyX9
def CO (ci : Nat) (q : vw_C) : Prop := (∀ w ∈ u_ws q.1 q.2.1 q.2.2, w ∈ tW) ∧ (∀ k, k < q.2.2 → parseFieldDescriptor (q.2.1 k).2.2.1 = some (tyG ci k)) ∧ (∀ a, a < q.2.2 → ∀ b, b < q.2.2 → a ≠ b → (q.2.1 a).2.1 ≠ (q.2.1 b).2.1)
def FLc (own idx ci k : Nat) : Prop := ∃ q o : vw_C, clG[ci]? = some q ∧ clG[own]? = some o ∧ k < q.2.2 ∧ Cond.fieldLink o.1 idx (q.2.1 k).1 (q.2.1 k).2.1 (q.2.1 k).2.2.1 ∈ tW
def MOk (y : MT) : Prop := TbOk y ∧ plainName (M_nm y).cls = true ∧ Cond.code (M_nm y) (M_by y) (M_ml y) (M_rt y) ∈ tW ∧ ((M_nm y).cls ≠ "java/lang/invoke/MethodHandle" ∧ (M_nm y).cls ≠ "java/lang/invoke/VarHandle") ∧ Cond.initialized (M_nm y).cls ∈ tW ∧ (parseMethodDescriptor (M_nm y).desc).map (fun d => d.parameters.length) = some (M_np y)
