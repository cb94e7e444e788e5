/-! The text and its reader. -/
/-- a letter; 0 behind the end -/
def pL (x : Nat → Nat) (n k : Nat) : Nat := if k < n then x k else 0
abbrev pD (x : Nat → Nat) (n k : Nat) : Prop := 48 ≤ pL x n k ∧ pL x n k ≤ 57
/-- a number of one or two figures with a comma behind it -/
def pNC (x : Nat → Nat) (n a : Nat) : Option (Nat × Nat) :=
  if pD x n a then (if pD x n (a + 1) then (if pL x n (a + 2) = 44 then some (10 * (pL x n a - 48) + (pL x n (a + 1) - 48), a + 3) else none) else (if pL x n (a + 1) = 44 then some (pL x n a - 48, a + 2) else none)) else none
/-- five sounds and the end -/
abbrev pSok (x : Nat → Nat) (n a : Nat) : Prop := ∀ k, k < 5 → 48 ≤ pL x n (a + k) ∧ pL x n (a + k) ≤ 53
def vcn (f : Nat → Nat) (n : Nat) : Nat := fb_sm (fun k => f k * 8 ^ k) n
def pF (x : Nat → Nat) (n a k : Nat) : Nat := pL x n (a + k) - 48
def pSY (x : Nat → Nat) (n a : Nat) : Option (Nat × Nat) := if pSok x n a ∧ pL x n (a + 5) = 59 then some (vcn (pF x n a) 5, a + 6) else none
def pG (x : Nat → Nat) (n a : Nat) : Option ((Nat × Nat × Nat) × Nat) :=
  if pL x n a = 103 then (match pNC x n (a + 1) with
    | none => none
    | some (kd, a1) => if kd ≤ 3 then (match pNC x n a1 with
      | none => none
      | some (er, a2) => if er ≤ 40 then (match pSY x n a2 with
        | none => none
        | some (c, a3) => some ((kd, er, c), a3)) else none) else none) else none
def pP (x : Nat → Nat) (n a : Nat) : Option (Nat × Nat) := if pL x n a = 112 then pSY x n (a + 1) else none
/-- the items from a place on: the place of the first bad one, the town told till then -/
def pA (x : Nat → Nat) (n : Nat) : Nat → vt_T → Nat → Option Nat × vt_T
  | 0, T, _ => (none, T)
  | f + 1, T, a => if a < n then (match pG x n a with
    | some ((kd, er, c), a') => if tG T < 5 then pA x n f (vaG T kd er c) a' else (some a, T)
    | none => match pP x n a with
      | some (c, a') => if tP T < 6 then pA x n f (vaP T c) a' else (some a, T)
      | none => (some a, T)) else (none, T)
theorem pA_s (x : Nat → Nat) (n f : Nat) (T : vt_T) (a : Nat) : pA x n (f + 1) T a = if a < n then (match pG x n a with
    | some ((kd, er, c), a') => if tG T < 5 then pA x n f (vaG T kd er c) a' else (some a, T)
    | none => match pP x n a with
      | some (c, a') => if tP T < 6 then pA x n f (vaP T c) a' else (some a, T)
      | none => (some a, T)) else (none, T) := rfl
/-- an answer of places -/
def pZ : Option Nat → Int32
  | none => -4
  | some a => nI a
theorem pL_lt {x : Nat → Nat} {n k : Nat} (h : k < n) : pL x n k = x k := if_pos h
theorem pL_ge {x : Nat → Nat} {n k : Nat} (h : ¬ k < n) : pL x n k = 0 := if_neg h
theorem pL_in {x : Nat → Nat} {n k : Nat} (h : pL x n k ≠ 0) : k < n := Classical.byContradiction fun z => h (pL_ge z)
theorem pD_in {x : Nat → Nat} {n k : Nat} (h : pD x n k) : k < n := pL_in (x := x) (k := k) (by have := h.1; omega)
theorem vcn_s (f : Nat → Nat) (n : Nat) : vcn f (n + 1) = vcn f n + f n * 8 ^ n := rfl
theorem vcn_lt {f : Nat → Nat} (n : Nat) (hf : ∀ k, k < n → f k < 8) : vcn f n < 8 ^ n := by
  induction n with
  | zero => exact Nat.one_pos
  | succ n ih =>
    have h1 := ih (fun k hk => hf k (by omega))
    have h2 : f n * 8 ^ n ≤ 7 * 8 ^ n := Nat.mul_le_mul_right _ (by have := hf n (by omega); omega)
    rw [vcn_s, Nat.pow_succ]
    omega
theorem vcn_w {f : Nat → Nat} {n : Nat} (hn : n < 5) (hf : ∀ k, k < n → f k < 8) : vw (vcn f n) n (f n) = vcn f (n + 1) := by
  have h := vcn_lt n hf
  unfold vw
  rw [Nat.div_eq_of_lt h, vcn_s]
  simp
theorem vcn_d {f : Nat → Nat} (hf : ∀ k, k < 5 → f k < 8) : vcn f 5 < 32768 ∧ ∀ k, k < 5 → vd (vcn f 5) k = f k := by
  obtain ⟨h0, h1, h2, h3, h4⟩ := v_all5 hf
  have e : vcn f 5 = f 0 + f 1 * 8 + f 2 * 64 + f 3 * 512 + f 4 * 4096 := by
    simp only [vcn, fb_sm]
    omega
  rw [e]
  refine ⟨by omega, v_5 ?_ ?_ ?_ ?_ ?_⟩ <;> unfold vd <;> simp only [Nat.reducePow] <;> omega
theorem pS_ok {x : Nat → Nat} {n a : Nat} (h : pSok x n a) : vok (vcn (pF x n a) 5) ∧ ∀ k, k < 5 → vd (vcn (pF x n a) 5) k = pF x n a k := by
  have hf : ∀ k, k < 5 → pF x n a k < 6 := fun k hk => by
    have := h k hk
    unfold pF
    omega
  obtain ⟨h1, h2⟩ := vcn_d (f := pF x n a) (fun k hk => Nat.lt_trans (hf k hk) (by decide))
  exact ⟨⟨h1, fun k hk => by rw [h2 k hk]; exact hf k hk⟩, h2⟩
/-- the text at s: n letters x; the reader stands at a -/
def vS (μ : vm_M) (s : Nat) (x : Nat → Nat) (n a : Nat) : Prop := (μ.1 s = some (.inl (2, [some (some (s + 1)), none, none])) ∧ μ.1 (s + 1) = some (.inr (1, 200))) ∧ (n ≤ 200 ∧ ∀ j, j < n → x j < 128) ∧ μ.2.1 s 1 = nI n ∧ μ.2.1 s 2 = nI a ∧ ∀ j, j < n → μ.2.1 (s + 1) j = nI (x j)
/-- all but the reader's and a town's ints stays -/
def vf2 (μ μ' : vm_M) (s t : Nat) : Prop := μ'.1 = μ.1 ∧ μ'.2.2 = μ.2.2 ∧ ∀ o, o ≠ s → (o < t ∨ t + 5 < o) → μ'.2.1 o = μ.2.1 o
theorem vf2.rf {μ : vm_M} {s t : Nat} : vf2 μ μ s t := ⟨rfl, rfl, fun _ _ _ => rfl⟩
theorem vf2.tr {μ μ1 μ2 : vm_M} {s t : Nat} (h : vf2 μ μ1 s t) (h2 : vf2 μ1 μ2 s t) : vf2 μ μ2 s t := ⟨h2.1.trans h.1, h2.2.1.trans h.2.1, fun o h3 h4 => (h2.2.2 o h3 h4).trans (h.2.2 o h3 h4)⟩
theorem vf2.s {μ μ1 : vm_M} {s t : Nat} (h : vf μ μ1 s s) : vf2 μ μ1 s t := ⟨h.1, h.2.1, fun o h3 h4 => h.2.2 o (by omega)⟩
theorem vf2.t {μ μ1 : vm_M} {s t : Nat} (h : vf μ μ1 t (t + 5)) : vf2 μ μ1 s t := ⟨h.1, h.2.1, fun o h3 h4 => h.2.2 o h4⟩
section SCRIPT
variable {E : vm_V} {μ μ' : vm_M} {s t n a : Nat} {x : Nat → Nat} {T : vt_T}
theorem vS.at (h : vS μ s x n a) (a' : Nat) : vS (vm_mI μ s 2 (nI a')) s x n a' := by
  obtain ⟨h1, h2, h3, h4, h5⟩ := h
  refine ⟨h1, h2, ?_, rI_eq, fun j hj => ?_⟩
  · rw [rI_nk (by decide)]
    exact h3
  · rw [rI_no (by omega)]
    exact h5 j hj
theorem vS.keep (h : vS μ s x n a) {lo hi : Nat} (f : vf μ μ' lo hi) (hd : s + 1 < lo ∨ hi < s) : vS μ' s x n a := by
  obtain ⟨h1, h2, h3, h4, h5⟩ := h
  refine ⟨by rw [f.1]; exact h1, h2, by rw [f.2.2 _ (by omega)]; exact h3, by rw [f.2.2 _ (by omega)]; exact h4, fun j hj => by rw [f.2.2 _ (by omega)]; exact h5 j hj⟩
theorem vS.r0 (h : vS μ s x n a) : vm_gR μ s 2 0 (s + 1) := ⟨_, h.1.1, rfl⟩
theorem vS.gN (h : vS μ s x n a) : vm_gI μ s 2 1 (nI n) := ⟨_, h.1.1, rfl, h.2.2.1⟩
theorem vS.gA (h : vS μ s x n a) : vm_gI μ s 2 2 (nI a) := ⟨_, h.1.1, rfl, h.2.2.2.1⟩
theorem vS.wA (h : vS μ s x n a) : vm_gW μ s 2 2 := ⟨_, h.1.1, rfl⟩
theorem vS.wN (h : vS μ s x n a) : vm_gW μ s 2 1 := ⟨_, h.1.1, rfl⟩
theorem vS.ob (h : vS μ s x n a) : vm_ob μ s 2 := ⟨_, h.1.1⟩
theorem vS.sh (h : vS μ s x n a) : μ.1 (s + 1) = some (.inr (1, 200)) := h.1.2
theorem vS.v {j : Nat} (h : vS μ s x n a) (hj : j < n) : μ.2.1 (s + 1) j = nI (x j) := h.2.2.2.2 j hj
theorem vS.n200 (h : vS μ s x n a) : n ≤ 200 := h.2.1.1
theorem vS.x128 {j : Nat} (h : vS μ s x n a) (hj : j < n) : x j < 128 := h.2.1.2 j hj
theorem c_SC_takes {q : Nat} (h : vS μ s x n a) (hq : 0 < q ∧ q < 128) (ha : a ≤ 200) : vm_Ex E 1 n_SC_takes [.ref s, .int (nI q)] 0 0 μ (vm_PX (fun z μ' => vf μ μ' s s ∧ ((pL x n a = q ∧ z = 1 ∧ vS μ' s x n (a + 1)) ∨ (¬ pL x n a = q ∧ z = 0 ∧ μ' = μ)))) := by
  have hn := h.n200
  refine vm_start (D := 0) (by decide) rfl (Nat.le_of_ble_eq_true rfl) (k := k_SC_takes) rfl (L := [.ref s, .int (nI q)]) rfl ?_
  refine vm_r_aload_n rfl rfl rfl ?_
  refine vm_r_getI rfl (h.gA) ?_
  refine vm_r_aload_n rfl rfl rfl ?_
  refine vm_r_getI rfl (h.gN) ?_
  first | refine vm_r_icmp_geN rfl (by omega) (by omega) (fun e => ?_) (fun e => ?_) | refine vm_r_icmp_ge rfl (fun e => ?_) (fun e => ?_)
  · refine vm_r_iconst (kI := nI 0) rfl ?_
    refine vm_r_ret rfl (fun _ => by first | exact vm_bi_01 _ | decide) (⟨_, rfl, vf.rf, Or.inr ⟨by rw [pL_ge (by omega)]; omega, rfl, rfl⟩⟩)
  · have hx := h.x128 e
    refine vm_r_aload_n rfl rfl rfl ?_
    refine vm_r_getR rfl (h.r0) ?_
    refine vm_r_aload_n rfl rfl rfl ?_
    refine vm_r_getI rfl (h.gA) ?_
    refine vm_r_caload rfl (h.sh) (by omega) (by omega) (h.v e) ?_
    refine vm_r_iload_n rfl rfl rfl ?_
    first | refine vm_r_icmp_eqN rfl (by omega) (by omega) (fun f => ?_) (fun f => ?_) | refine vm_r_icmp_eq rfl (fun f => ?_) (fun f => ?_)
    · refine vm_r_aload_n rfl rfl rfl ?_
      refine vm_r_dup rfl rfl ?_
      refine vm_r_getI rfl (h.gA) ?_
      refine vm_r_iconst (kI := nI 1) rfl ?_
      first | refine vm_r_iaddN rfl ?_ | refine vm_r_iadd rfl ?_
      refine vm_r_putI rfl (h.wA) ?_
      refine vm_r_iconst (kI := nI 1) rfl ?_
      refine vm_r_ret rfl (fun _ => by first | exact vm_bi_01 _ | decide) (⟨_, rfl, vf.mI (Nat.le_refl _) (Nat.le_refl _), Or.inl ⟨by rw [pL_lt e]; exact f, rfl, h.at _⟩⟩)
    · refine vm_r_iconst (kI := nI 0) rfl ?_
      refine vm_r_ret rfl (fun _ => by first | exact vm_bi_01 _ | decide) (⟨_, rfl, vf.rf, Or.inr ⟨by rw [pL_lt e]; exact f, rfl, rfl⟩⟩)
theorem c_SC_takeFigure (h : vS μ s x n a) (ha : a ≤ 200) : vm_Ex E 2 n_SC_takeFigure [.ref s] 0 0 μ (vm_PX (fun z μ' => vf μ μ' s s ∧ ((pD x n a ∧ z = nI (pL x n a - 48) ∧ vS μ' s x n (a + 1)) ∨ (¬ pD x n a ∧ z = -4 ∧ μ' = μ)))) := by
  have hn := h.n200
  refine vm_start (D := 1) (by decide) rfl (Nat.le_of_ble_eq_true rfl) (k := k_SC_takeFigure) rfl (L := [.ref s]) rfl ?_
  refine vm_r_aload_n rfl rfl rfl ?_
  refine vm_r_getI rfl (h.gA) ?_
  refine vm_r_aload_n rfl rfl rfl ?_
  refine vm_r_getI rfl (h.gN) ?_
  first | refine vm_r_icmp_geN rfl (by omega) (by omega) (fun e => ?_) (fun e => ?_) | refine vm_r_icmp_ge rfl (fun e => ?_) (fun e => ?_)
  · refine vm_r_bipush rfl ?_
    refine vm_r_ret rfl (fun h => by cases h) (⟨_, rfl, vf.rf, Or.inr ⟨fun z => by have := pD_in z; omega, rfl, rfl⟩⟩)
  · have hx := h.x128 e
    have hL := pL_lt (x := x) e
    refine vm_r_aload_n rfl rfl rfl ?_
    refine vm_r_getR rfl (h.r0) ?_
    refine vm_r_aload_n rfl rfl rfl ?_
    refine vm_r_getI rfl (h.gA) ?_
    refine vm_r_caload rfl (h.sh) (by omega) (by omega) (h.v e) ?_
    refine vm_r_bipush (kI := nI 48) rfl ?_
    refine vm_r_bipush (kI := nI 57) rfl ?_
    refine vm_r_cs3I rfl (by decide) (Nat.le_of_ble_eq_true rfl) (vm_Ex_le (Nat.le_of_ble_eq_true rfl) (c_G_within _ _ _)) ?_
    first | refine vm_r_if_neB rfl (fun f => ?_) (fun f => ?_) | refine vm_r_if_neN rfl (by omega) (fun f => ?_) (fun f => ?_) | refine vm_r_if_ne rfl (fun f => ?_) (fun f => ?_)
    · have h1 := (nI_leI (a := 48) (b := x a) (by omega) (by omega)).mp f.1
      have h2 := (nI_leI (a := x a) (b := 57) (by omega) (by omega)).mp f.2
      have h' := h.at (a + 1)
      refine vm_r_aload_n rfl rfl rfl ?_
      refine vm_r_dup rfl rfl ?_
      refine vm_r_getI rfl (h.gA) ?_
      refine vm_r_iconst (kI := nI 1) rfl ?_
      first | refine vm_r_iaddN rfl ?_ | refine vm_r_iadd rfl ?_
      refine vm_r_putI rfl (h.wA) ?_
      refine vm_r_aload_n rfl rfl rfl ?_
      refine vm_r_getR rfl (h'.r0) ?_
      refine vm_r_aload_n rfl rfl rfl ?_
      refine vm_r_getI rfl (h'.gA) ?_
      refine vm_r_iconst (kI := nI 1) rfl ?_
      first | refine vm_r_isubN rfl (by omega) ?_ | refine vm_r_isub rfl ?_
      refine vm_r_caload rfl (h'.sh) (by omega) (by omega) (h'.v e) ?_
      refine vm_r_bipush (kI := nI 48) rfl ?_
      first | refine vm_r_isubN rfl (by omega) ?_ | refine vm_r_isub rfl ?_
      refine vm_r_ret rfl (fun h => by cases h) (⟨_, rfl, vf.mI (Nat.le_refl _) (Nat.le_refl _), Or.inl ⟨by omega, by rw [hL, Nat.add_sub_cancel]; exact pk_sub h1, h'⟩⟩)
    · refine vm_r_bipush rfl ?_
      refine vm_r_ret rfl (fun h => by cases h) (⟨_, rfl, vf.rf, Or.inr ⟨fun z => f ⟨nI_le (by omega) (by omega), nI_le (by omega) (by omega)⟩, rfl, rfl⟩⟩)
theorem v_nI4 {j : Nat} (h : j < 2 ^ 31) : ¬ nI j = -4 := by
  intro z
  have : nI j < 0 := by rw [z]; decide
  exact nI_pos h this
theorem pNC_0 (h : ¬ pD x n a) : pNC x n a = none := if_neg h
theorem pNC_1 (h : pD x n a) (h2 : ¬ pD x n (a + 1)) : pNC x n a = if pL x n (a + 1) = 44 then some (pL x n a - 48, a + 1 + 1) else none := by
  unfold pNC
  rw [if_pos h, if_neg h2]
theorem pNC_2 (h : pD x n a) (h2 : pD x n (a + 1)) : pNC x n a = if pL x n (a + 2) = 44 then some (10 * (pL x n a - 48) + (pL x n (a + 1) - 48), a + 2 + 1) else none := by
  unfold pNC
  rw [if_pos h, if_pos h2]
theorem c_SC_takeNumber (h : vS μ s x n a) (ha : a ≤ 200) : vm_Ex E 3 n_SC_takeNumber [.ref s] 0 0 μ (vm_PX (fun z μ' => vf μ μ' s s ∧ ((pNC x n a = none ∧ z = -4 ∧ μ' = μ) ∨ ∃ v a1, v ≤ 99 ∧ a < a1 ∧ a1 ≤ n ∧ z = nI v ∧ vS μ' s x n a1 ∧ pNC x n a = if pL x n a1 = 44 then some (v, a1 + 1) else none))) := by
  have hn := h.n200
  refine vm_start (D := 2) (by decide) rfl (Nat.le_of_ble_eq_true rfl) (k := k_SC_takeNumber) rfl (L := [.ref s, .retAddr 0, .retAddr 0]) rfl ?_
  refine vm_r_aload_n rfl rfl rfl ?_
  refine vm_r_cv1X rfl (by decide) (h.ob) (Nat.le_of_ble_eq_true rfl) (vm_Ex_le (Nat.le_of_ble_eq_true rfl) (c_SC_takeFigure h (by omega))) (fun z1 μ1 q1 => ?_)
  obtain ⟨f1, ⟨d1, rfl, h1⟩ | ⟨d1, rfl, rfl⟩⟩ := q1
  · have i1 := pD_in d1
    refine vm_r_istore_n1 rfl rfl rfl ?_
    refine vm_r_iload_n rfl rfl rfl ?_
    refine vm_r_bipush rfl ?_
    refine vm_r_icmp_ne rfl (fun _ => ?_) (fun hn => absurd hn (not_not_intro (v_nI4 (by omega))))
    refine vm_r_aload_n rfl rfl rfl ?_
    refine vm_r_cv1X rfl (by decide) (h1.ob) (Nat.le_of_ble_eq_true rfl) (vm_Ex_le (Nat.le_of_ble_eq_true rfl) (c_SC_takeFigure h1 (by omega))) (fun z2 μ2 q2 => ?_)
    obtain ⟨f2, ⟨d2, rfl, h2⟩ | ⟨d2, rfl, rfl⟩⟩ := q2
    · have i2 := pD_in d2
      refine vm_r_istore_n2 rfl rfl rfl ?_
      refine vm_r_iload_n rfl rfl rfl ?_
      refine vm_r_bipush rfl ?_
      refine vm_r_icmp_ne rfl (fun _ => ?_) (fun hn => absurd hn (not_not_intro (v_nI4 (by omega))))
      refine vm_r_bipush (kI := nI 10) rfl ?_
      refine vm_r_iload_n rfl rfl rfl ?_
      first | refine vm_r_imulN rfl ?_ | refine vm_r_imul rfl ?_
      refine vm_r_iload_n rfl rfl rfl ?_
      first | refine vm_r_iaddN rfl ?_ | refine vm_r_iadd rfl ?_
      refine vm_r_ret rfl (fun h => by cases h) (⟨_, rfl, f1.tr f2, Or.inr ⟨_, a + 2, by omega, by omega, by omega, rfl, h2, pNC_2 d1 d2⟩⟩)
    · refine vm_r_istore_n2 rfl rfl rfl ?_
      refine vm_r_iload_n rfl rfl rfl ?_
      refine vm_r_bipush rfl ?_
      refine vm_r_icmp_ne rfl (fun hn => absurd hn (not_not_intro rfl)) (fun _ => ?_)
      refine vm_r_iload_n rfl rfl rfl ?_
      refine vm_r_goto rfl ?_
      refine vm_r_ret rfl (fun h => by cases h) (⟨_, rfl, f1, Or.inr ⟨_, a + 1, by omega, by omega, by omega, rfl, h1, pNC_1 d1 d2⟩⟩)
  · refine vm_r_istore_n1 rfl rfl rfl ?_
    refine vm_r_iload_n rfl rfl rfl ?_
    refine vm_r_bipush rfl ?_
    refine vm_r_icmp_ne rfl (fun hn => absurd hn (not_not_intro rfl)) (fun _ => ?_)
    refine vm_r_bipush rfl ?_
    refine vm_r_ret rfl (fun h => by cases h) (⟨_, rfl, f1, Or.inl ⟨pNC_0 d1, rfl, rfl⟩⟩)
theorem c_SC_takeSaying (h : vS μ s x n a) (ha : a ≤ n) : vm_Ex E 3 n_SC_takeSaying [.ref s] 0 0 μ (vm_PX (fun z μ' => vf μ μ' s s ∧ ((pSok x n a ∧ a + 5 ≤ n ∧ z = nI (vcn (pF x n a) 5) ∧ vS μ' s x n (a + 5)) ∨ (¬ pSok x n a ∧ z = -4 ∧ ∃ a', vS μ' s x n a')))) := by
  have hn := h.n200
  refine vm_start (D := 2) (by decide) rfl (Nat.le_of_ble_eq_true rfl) (k := k_SC_takeSaying) rfl (L := [.ref s, .retAddr 0, .retAddr 0, .retAddr 0]) rfl ?_
  refine vm_r_iconst (kI := nI 0) rfl ?_
  refine vm_r_istore_n1 rfl rfl rfl ?_
  refine vm_r_iconst (kI := nI 0) rfl ?_
  refine vm_r_istore_n2 rfl rfl rfl ?_
  refine vm_up (P := fun i => ∀ (μ1 : vm_M) (v : Value), vm_nlv v = true → vf μ μ1 s s → vS μ1 s x n (a + i) → a + i ≤ n → (∀ k, k < i → 48 ≤ pL x n (a + k) ∧ pL x n (a + k) ≤ 53) → vm_W E (vm_Ex E 2) k_SC_takeSaying _ (4, [.ref s, .int (nI (vcn (pF x n a) i)), .int (nI i), v], [], 0, 0, μ1)) (N := 5) ?_ ?_ 0 (by decide) μ (.retAddr 0) rfl vf.rf h ha (fun k hk => absurd hk (Nat.not_lt_zero k))
  · intro μ1 v hv f1 h1 ha1 hk
    refine vm_r_iload_n rfl rfl rfl ?_
    refine vm_r_iconst (kI := nI 5) rfl ?_
    first | refine vm_r_icmp_geN rfl (by omega) (by omega) (fun _ => ?_) (fun hn => absurd hn (by omega)) | refine vm_r_icmp_ge rfl (fun _ => ?_) (fun hn => absurd hn (by omega))
    refine vm_r_iload_n rfl rfl rfl ?_
    refine vm_r_ret rfl (fun h => by cases h) (⟨_, rfl, f1, Or.inl ⟨hk, ha1, rfl, h1⟩⟩)
  · intro i hi ih μ1 v hv f1 h1 ha1 hk
    refine vm_r_iload_n rfl rfl rfl ?_
    refine vm_r_iconst (kI := nI 5) rfl ?_
    first | refine vm_r_icmp_geN rfl (by omega) (by omega) (fun hn => absurd hn (by omega)) (fun _ => ?_) | refine vm_r_icmp_ge rfl (fun hn => absurd hn (by omega)) (fun _ => ?_)
    refine vm_r_aload_n rfl rfl rfl ?_
    refine vm_r_cv1X rfl (by decide) (h1.ob) (Nat.le_of_ble_eq_true rfl) (vm_Ex_le (Nat.le_of_ble_eq_true rfl) (c_SC_takeFigure h1 (by omega))) (fun z2 μ2 q2 => ?_)
    obtain ⟨f2, ⟨d2, rfl, h2⟩ | ⟨d2, rfl, rfl⟩⟩ := q2
    · have i2 := pD_in d2
      refine vm_r_istore_n3 rfl rfl rfl ?_
      refine vm_r_iload_n rfl rfl rfl ?_
      refine vm_r_iconst (kI := nI 0) rfl ?_
      refine vm_r_iconst (kI := nI 5) rfl ?_
      refine vm_r_cs3I rfl (by decide) (Nat.le_of_ble_eq_true rfl) (vm_Ex_le (Nat.le_of_ble_eq_true rfl) (c_G_within _ _ _)) ?_
      first | refine vm_r_if_neB rfl (fun e => ?_) (fun e => ?_) | refine vm_r_if_neN rfl (by omega) (fun e => ?_) (fun e => ?_) | refine vm_r_if_ne rfl (fun e => ?_) (fun e => ?_)
      · have e2 := (nI_leI (a := pL x n (a + i) - 48) (b := 5) (by omega) (by omega)).mp e.2
        have hfi : ∀ k, k < i → pF x n a k < 8 := fun k q => by
          have := hk k q
          unfold pF
          omega
        have hlt := vcn_lt i hfi
        have h8 := (v_p8 i hi).1
        refine vm_r_iload_n rfl rfl rfl ?_
        refine vm_r_iload_n rfl rfl rfl ?_
        refine vm_r_iload_n rfl rfl rfl ?_
        refine vm_r_cs3I rfl (by decide) (Nat.le_of_ble_eq_true rfl) (vm_Ex_le (Nat.le_of_ble_eq_true rfl) (c_SY_withSound (by omega) hi (by omega))) ?_
        refine vm_r_istore_n1 rfl rfl rfl ?_
        first | refine vm_r_iinc2N (y := 1) rfl rfl ?_ | refine vm_r_iinc2 rfl rfl ?_
        refine vm_r_goto rfl ?_
        rw [show vw (vcn (pF x n a) i) i (pL x n (a + i) - 48) = vcn (pF x n a) (i + 1) from vcn_w hi hfi]
        refine ih μ2 _ rfl (f1.tr f2) h2 (by omega) (fun k q => ?_)
        rcases Nat.lt_or_ge k i with w | w
        · exact hk k w
        · obtain rfl : k = i := by omega
          omega
      · refine vm_r_bipush rfl ?_
        refine vm_r_ret rfl (fun h => by cases h) (⟨_, rfl, f1.tr f2, Or.inr ⟨fun z => e ⟨nI_le (by omega) (by omega), nI_le (by have := z i hi; omega) (by omega)⟩, rfl, _, h2⟩⟩)
    · refine vm_r_istore_n3 rfl rfl rfl ?_
      refine vm_r_iload_n rfl rfl rfl ?_
      refine vm_r_iconst (kI := nI 0) rfl ?_
      refine vm_r_iconst (kI := nI 5) rfl ?_
      refine vm_r_cs3I rfl (by decide) (Nat.le_of_ble_eq_true rfl) (vm_Ex_le (Nat.le_of_ble_eq_true rfl) (c_G_within _ _ _)) ?_
      first | refine vm_r_if_neB rfl (fun hn => absurd hn ((fun z => absurd z.1 (by decide)))) (fun _ => ?_) | refine vm_r_if_neN rfl (by omega) (fun hn => absurd hn ((fun z => absurd z.1 (by decide)))) (fun _ => ?_) | refine vm_r_if_ne rfl (fun hn => absurd hn ((fun z => absurd z.1 (by decide)))) (fun _ => ?_)
      refine vm_r_bipush rfl ?_
      refine vm_r_ret rfl (fun h => by cases h) (⟨_, rfl, f1, Or.inr ⟨fun z => d2 (by have := z i hi; omega), rfl, _, h1⟩⟩)
theorem pSY_y (h : pSok x n a) (h2 : pL x n (a + 5) = 59) : pSY x n a = some (vcn (pF x n a) 5, a + 6) := if_pos ⟨h, h2⟩
theorem pSY_n (h : ¬ (pSok x n a ∧ pL x n (a + 5) = 59)) : pSY x n a = none := if_neg h
theorem c_SC_readPerson (h : vS μ s x n a) (ha : a ≤ n) (ht : vt_C μ t T) (hd : s + 1 < t ∨ t + 5 < s) : vm_Ex E 4 n_SC_readPerson [.ref s, .ref t] 0 0 μ (vm_PX (fun z μ' => vf2 μ μ' s t ∧
    ((∃ c a', pP x n a = some (c, a') ∧ tP T < 6 ∧ z = 1 ∧ vS μ' s x n a' ∧ a' ≤ n ∧ a < a' ∧ vt_C μ' t (vaP T c)) ∨ ((∀ c a', pP x n a = some (c, a') → ¬ tP T < 6) ∧ z = 0 ∧ ∃ a', vS μ' s x n a')))) := by
  have hn := h.n200
  refine vm_start (D := 3) (by decide) rfl (Nat.le_of_ble_eq_true rfl) (k := k_SC_readPerson) rfl (L := [.ref s, .ref t, .retAddr 0]) rfl ?_
  refine vm_r_aload_n rfl rfl rfl ?_
  refine vm_r_bipush (kI := nI 112) rfl ?_
  refine vm_r_cv2X rfl (by decide) (h.ob) (Nat.le_of_ble_eq_true rfl) (vm_Ex_le (Nat.le_of_ble_eq_true rfl) (c_SC_takes h (by decide) (by omega))) (fun z1 μ1 q1 => ?_)
  obtain ⟨f1, ⟨d1, rfl, h1⟩ | ⟨d1, rfl, rfl⟩⟩ := q1
  · have i1 := pL_in (x := x) (n := n) (k := a) (by omega)
    refine vm_r_if_ne rfl (fun _ => ?_) (fun hn => absurd hn (not_not_intro (by decide)))
    refine vm_r_aload_n rfl rfl rfl ?_
    refine vm_r_cv1X rfl (by decide) (h1.ob) (Nat.le_of_ble_eq_true rfl) (vm_Ex_le (Nat.le_of_ble_eq_true rfl) (c_SC_takeSaying h1 (by omega))) (fun z2 μ2 q2 => ?_)
    obtain ⟨f2, ⟨d2, i2, rfl, h2⟩ | ⟨d2, rfl, a2, h2⟩⟩ := q2
    · obtain ⟨hok, hvd⟩ := pS_ok d2
      have hlt := hok.1
      refine vm_r_istore_n2 rfl rfl rfl ?_
      refine vm_r_iload_n rfl rfl rfl ?_
      refine vm_r_bipush rfl ?_
      refine vm_r_icmp_eq rfl (fun hn => absurd hn (v_nI4 (by omega))) (fun _ => ?_)
      refine vm_r_aload_n rfl rfl rfl ?_
      refine vm_r_bipush (kI := nI 59) rfl ?_
      refine vm_r_cv2X rfl (by decide) (h2.ob) (Nat.le_of_ble_eq_true rfl) (vm_Ex_le (Nat.le_of_ble_eq_true rfl) (c_SC_takes h2 (by decide) (by omega))) (fun z3 μ3 q3 => ?_)
      obtain ⟨f3, ⟨d3, rfl, h3⟩ | ⟨d3, rfl, rfl⟩⟩ := q3
      · have i3 := pL_in (x := x) (n := n) (k := a + 1 + 5) (by omega)
        have f123 := (f1.tr f2).tr f3
        have ht3 := ht.keep f123 (by omega)
        refine vm_r_if_eq rfl (fun hn => absurd hn ((by decide))) (fun _ => ?_)
        refine vm_r_aload_n rfl rfl rfl ?_
        refine vm_r_iload_n rfl rfl rfl ?_
        refine vm_r_cv2X rfl (by decide) (ht3.s.ob) (Nat.le_of_ble_eq_true rfl) (vm_Ex_le (Nat.le_of_ble_eq_true rfl) (c_TN_addPerson ht3 hok)) (fun z4 μ4 q4 => ?_)
        obtain ⟨rfl, f4, g1, g2⟩ := q4
        have hp : pP x n a = some (vcn (pF x n (a + 1)) 5, a + 1 + 6) := (if_pos d1).trans (pSY_y d2 d3)
        first | refine vm_r_if_eqB rfl (fun e => ?_) (fun e => ?_) | refine vm_r_if_eqN rfl (by omega) (fun e => ?_) (fun e => ?_) | refine vm_r_if_eq rfl (fun e => ?_) (fun e => ?_)
        · refine vm_r_iconst (kI := nI 0) rfl ?_
          refine vm_r_ret rfl (fun _ => by first | exact vm_bi_01 _ | decide) (⟨_, rfl, (vf2.s f123).tr (vf2.t f4), Or.inr ⟨fun _ _ _ => e, rfl, _, h3.keep f4 (by omega)⟩⟩)
        · refine vm_r_iconst (kI := nI 1) rfl ?_
          refine vm_r_goto rfl ?_
          refine vm_r_ret rfl (fun _ => by first | exact vm_bi_01 _ | decide) (⟨_, rfl, (vf2.s f123).tr (vf2.t f4), Or.inl ⟨_, _, hp, e, rfl, h3.keep f4 (by omega), by omega, by omega, g1 e⟩⟩)
      · have hp : pP x n a = none := (if_pos d1).trans (pSY_n fun z => d3 z.2)
        refine vm_r_if_eq rfl (fun _ => ?_) (fun hn => absurd hn ((by decide)))
        refine vm_r_iconst (kI := nI 0) rfl ?_
        refine vm_r_ret rfl (fun _ => by first | exact vm_bi_01 _ | decide) (⟨_, rfl, vf2.s (f1.tr f2), Or.inr ⟨fun c a' z => (by rw [hp] at z; cases z), rfl, _, h2⟩⟩)
    · have hp : pP x n a = none := (if_pos d1).trans (pSY_n fun z => d2 z.1)
      refine vm_r_istore_n2 rfl rfl rfl ?_
      refine vm_r_iload_n rfl rfl rfl ?_
      refine vm_r_bipush rfl ?_
      refine vm_r_icmp_eq rfl (fun _ => ?_) (fun hn => absurd hn (not_not_intro rfl))
      refine vm_r_iconst (kI := nI 0) rfl ?_
      refine vm_r_ret rfl (fun _ => by first | exact vm_bi_01 _ | decide) (⟨_, rfl, vf2.s (f1.tr f2), Or.inr ⟨fun c a' z => (by rw [hp] at z; cases z), rfl, _, h2⟩⟩)
  · have hp : pP x n a = none := if_neg d1
    refine vm_r_if_ne rfl (fun hn => absurd hn (not_not_intro rfl)) (fun _ => ?_)
    refine vm_r_iconst (kI := nI 0) rfl ?_
    refine vm_r_ret rfl (fun _ => by first | exact vm_bi_01 _ | decide) (⟨_, rfl, vf2.s f1, Or.inr ⟨fun c a' z => (by rw [hp] at z; cases z), rfl, _, h⟩⟩)
theorem pG_0 (h : ¬ pL x n a = 103) : pG x n a = none := if_neg h
theorem pG_1 (h : pL x n a = 103) (h1 : pNC x n (a + 1) = none) : pG x n a = none := by
  unfold pG
  rw [if_pos h, h1]
theorem pG_2 {kd a1 : Nat} (h : pL x n a = 103) (h1 : pNC x n (a + 1) = some (kd, a1)) (h2 : ¬ kd ≤ 3) : pG x n a = none := by
  unfold pG
  rw [if_pos h, h1]
  exact if_neg h2
theorem pG_3 {kd a1 : Nat} (h : pL x n a = 103) (h1 : pNC x n (a + 1) = some (kd, a1)) (h3 : pNC x n a1 = none) : pG x n a = none := by
  unfold pG
  rw [if_pos h, h1]
  dsimp only
  rw [h3]
  exact ite_self none
theorem pG_4 {kd a1 er a2 : Nat} (h : pL x n a = 103) (h1 : pNC x n (a + 1) = some (kd, a1)) (h3 : pNC x n a1 = some (er, a2)) (h4 : ¬ er ≤ 40) : pG x n a = none := by
  unfold pG
  rw [if_pos h, h1]
  dsimp only
  rw [h3]
  dsimp only
  rw [if_neg h4]
  exact ite_self none
theorem pG_5 {kd a1 er a2 : Nat} (h : pL x n a = 103) (h1 : pNC x n (a + 1) = some (kd, a1)) (h3 : pNC x n a1 = some (er, a2)) (h5 : pSY x n a2 = none) : pG x n a = none := by
  unfold pG
  rw [if_pos h, h1]
  dsimp only
  rw [h3]
  dsimp only
  rw [h5]
  dsimp only
  rw [ite_self]
  exact ite_self none
theorem pG_6 {kd a1 er a2 c a3 : Nat} (h : pL x n a = 103) (h1 : pNC x n (a + 1) = some (kd, a1)) (h2 : kd ≤ 3) (h3 : pNC x n a1 = some (er, a2)) (h4 : er ≤ 40) (h5 : pSY x n a2 = some (c, a3)) : pG x n a = some ((kd, er, c), a3) := by
  unfold pG
  rw [if_pos h, h1]
  dsimp only
  rw [if_pos h2, h3]
  dsimp only
  rw [if_pos h4, h5]
theorem c_SC_readGate (h : vS μ s x n a) (ha : a ≤ n) (ht : vt_C μ t T) (hd : s + 1 < t ∨ t + 5 < s) : vm_Ex E 4 n_SC_readGate [.ref s, .ref t] 0 0 μ (vm_PX (fun z μ' => vf2 μ μ' s t ∧
    ((∃ kd er c a', pG x n a = some ((kd, er, c), a') ∧ tG T < 5 ∧ z = 1 ∧ vS μ' s x n a' ∧ a' ≤ n ∧ a < a' ∧ vt_C μ' t (vaG T kd er c)) ∨ ((∀ kd er c a', pG x n a = some ((kd, er, c), a') → ¬ tG T < 5) ∧ z = 0 ∧ (∃ a', vS μ' s x n a') ∧ vt_C μ' t T)))) := by
  have hn := h.n200
  have bad : ∀ (μ1 : vm_M) (a1 : Nat), vf μ μ1 s s → vS μ1 s x n a1 → pG x n a = none → vm_PX (fun z μ' => vf2 μ μ' s t ∧
    ((∃ kd er c a', pG x n a = some ((kd, er, c), a') ∧ tG T < 5 ∧ z = 1 ∧ vS μ' s x n a' ∧ a' ≤ n ∧ a < a' ∧ vt_C μ' t (vaG T kd er c)) ∨ ((∀ kd er c a', pG x n a = some ((kd, er, c), a') → ¬ tG T < 5) ∧ z = 0 ∧ (∃ a', vS μ' s x n a') ∧ vt_C μ' t T))) (some (.int 0)) μ1 := fun μ1 a1 f1 h1 hp =>
    ⟨0, rfl, vf2.s f1, Or.inr ⟨fun kd er c a' z => (by rw [hp] at z; cases z), rfl, ⟨a1, h1⟩, ht.keep f1 (by omega)⟩⟩
  refine vm_start (D := 3) (by decide) rfl (Nat.le_of_ble_eq_true rfl) (k := k_SC_readGate) rfl (L := [.ref s, .ref t, .retAddr 0, .retAddr 0, .retAddr 0]) rfl ?_
  refine vm_r_aload_n rfl rfl rfl ?_
  refine vm_r_bipush (kI := nI 103) rfl ?_
  refine vm_r_cv2X rfl (by decide) (h.ob) (Nat.le_of_ble_eq_true rfl) (vm_Ex_le (Nat.le_of_ble_eq_true rfl) (c_SC_takes h (by decide) (by omega))) (fun z1 μ1 q1 => ?_)
  obtain ⟨f1, ⟨d1, rfl, h1⟩ | ⟨d1, rfl, rfl⟩⟩ := q1
  · have i1 := pL_in (x := x) (n := n) (k := a) (by omega)
    refine vm_r_if_ne rfl (fun _ => ?_) (fun hn => absurd hn (not_not_intro (by decide)))
    refine vm_r_aload_n rfl rfl rfl ?_
    refine vm_r_cv1X rfl (by decide) (h1.ob) (Nat.le_of_ble_eq_true rfl) (vm_Ex_le (Nat.le_of_ble_eq_true rfl) (c_SC_takeNumber h1 (by omega))) (fun z2 μ2 q2 => ?_)
    obtain ⟨f2, ⟨d2, rfl, rfl⟩ | ⟨kd, a1, hv, j1, j2, rfl, h2, d2⟩⟩ := q2
    · refine vm_r_istore_n2 rfl rfl rfl ?_
      refine vm_r_iload_n rfl rfl rfl ?_
      refine vm_r_iconst (kI := nI 0) rfl ?_
      refine vm_r_iconst (kI := nI 3) rfl ?_
      refine vm_r_cs3I rfl (by decide) (Nat.le_of_ble_eq_true rfl) (vm_Ex_le (Nat.le_of_ble_eq_true rfl) (c_G_within _ _ _)) ?_
      first | refine vm_r_if_eqB rfl (fun _ => ?_) (fun hn => absurd hn ((fun z => absurd z.1 (by decide)))) | refine vm_r_if_eqN rfl (by omega) (fun _ => ?_) (fun hn => absurd hn ((fun z => absurd z.1 (by decide)))) | refine vm_r_if_eq rfl (fun _ => ?_) (fun hn => absurd hn ((fun z => absurd z.1 (by decide))))
      refine vm_r_iconst (kI := nI 0) rfl ?_
      refine vm_r_ret rfl (fun _ => by first | exact vm_bi_01 _ | decide) (bad _ _ f1 h1 (pG_1 d1 d2))
    · refine vm_r_istore_n2 rfl rfl rfl ?_
      refine vm_r_iload_n rfl rfl rfl ?_
      refine vm_r_iconst (kI := nI 0) rfl ?_
      refine vm_r_iconst (kI := nI 3) rfl ?_
      refine vm_r_cs3I rfl (by decide) (Nat.le_of_ble_eq_true rfl) (vm_Ex_le (Nat.le_of_ble_eq_true rfl) (c_G_within _ _ _)) ?_
      first | refine vm_r_if_eqB rfl (fun e => ?_) (fun e => ?_) | refine vm_r_if_eqN rfl (by omega) (fun e => ?_) (fun e => ?_) | refine vm_r_if_eq rfl (fun e => ?_) (fun e => ?_)
      · have hkd : ¬ kd ≤ 3 := fun z => e ⟨nI_le (by omega) (by omega), nI_le (by omega) (by omega)⟩
        have hp : pG x n a = none := by
          by_cases hc : pL x n a1 = 44
          · rw [if_pos hc] at d2
            exact pG_2 d1 d2 hkd
          · rw [if_neg hc] at d2
            exact pG_1 d1 d2
        refine vm_r_iconst (kI := nI 0) rfl ?_
        refine vm_r_ret rfl (fun _ => by first | exact vm_bi_01 _ | decide) (bad _ _ (f1.tr f2) h2 hp)
      · have hkd := (nI_leI (a := kd) (b := 3) (by omega) (by omega)).mp e.2
        refine vm_r_aload_n rfl rfl rfl ?_
        refine vm_r_bipush (kI := nI 44) rfl ?_
        refine vm_r_cv2X rfl (by decide) (h2.ob) (Nat.le_of_ble_eq_true rfl) (vm_Ex_le (Nat.le_of_ble_eq_true rfl) (c_SC_takes h2 (by decide) (by omega))) (fun z3 μ3 q3 => ?_)
        obtain ⟨f3, ⟨d3, rfl, h3⟩ | ⟨d3, rfl, rfl⟩⟩ := q3
        · have i3 := pL_in (x := x) (n := n) (k := a1) (by omega)
          rw [if_pos d3] at d2
          have f123 := (f1.tr f2).tr f3
          refine vm_r_if_ne rfl (fun _ => ?_) (fun hn => absurd hn (not_not_intro (by decide)))
          refine vm_r_aload_n rfl rfl rfl ?_
          refine vm_r_cv1X rfl (by decide) (h3.ob) (Nat.le_of_ble_eq_true rfl) (vm_Ex_le (Nat.le_of_ble_eq_true rfl) (c_SC_takeNumber h3 (by omega))) (fun z4 μ4 q4 => ?_)
          obtain ⟨f4, ⟨d4, rfl, rfl⟩ | ⟨er, a2, hv2, j3, j4, rfl, h4, d4⟩⟩ := q4
          · refine vm_r_istore_n3 rfl rfl rfl ?_
            refine vm_r_iload_n rfl rfl rfl ?_
            refine vm_r_iconst (kI := nI 0) rfl ?_
            refine vm_r_bipush (kI := nI 40) rfl ?_
            refine vm_r_cs3I rfl (by decide) (Nat.le_of_ble_eq_true rfl) (vm_Ex_le (Nat.le_of_ble_eq_true rfl) (c_G_within _ _ _)) ?_
            first | refine vm_r_if_eqB rfl (fun _ => ?_) (fun hn => absurd hn ((fun z => absurd z.1 (by decide)))) | refine vm_r_if_eqN rfl (by omega) (fun _ => ?_) (fun hn => absurd hn ((fun z => absurd z.1 (by decide)))) | refine vm_r_if_eq rfl (fun _ => ?_) (fun hn => absurd hn ((fun z => absurd z.1 (by decide))))
            refine vm_r_iconst (kI := nI 0) rfl ?_
            refine vm_r_ret rfl (fun _ => by first | exact vm_bi_01 _ | decide) (bad _ _ f123 h3 (pG_3 d1 d2 d4))
          · refine vm_r_istore_n3 rfl rfl rfl ?_
            refine vm_r_iload_n rfl rfl rfl ?_
            refine vm_r_iconst (kI := nI 0) rfl ?_
            refine vm_r_bipush (kI := nI 40) rfl ?_
            refine vm_r_cs3I rfl (by decide) (Nat.le_of_ble_eq_true rfl) (vm_Ex_le (Nat.le_of_ble_eq_true rfl) (c_G_within _ _ _)) ?_
            first | refine vm_r_if_eqB rfl (fun e2 => ?_) (fun e2 => ?_) | refine vm_r_if_eqN rfl (by omega) (fun e2 => ?_) (fun e2 => ?_) | refine vm_r_if_eq rfl (fun e2 => ?_) (fun e2 => ?_)
            · have her : ¬ er ≤ 40 := fun z => e2 ⟨nI_le (by omega) (by omega), nI_le (by omega) (by omega)⟩
              have hp : pG x n a = none := by
                by_cases hc : pL x n a2 = 44
                · rw [if_pos hc] at d4
                  exact pG_4 d1 d2 d4 her
                · rw [if_neg hc] at d4
                  exact pG_3 d1 d2 d4
              refine vm_r_iconst (kI := nI 0) rfl ?_
              refine vm_r_ret rfl (fun _ => by first | exact vm_bi_01 _ | decide) (bad _ _ (f123.tr f4) h4 hp)
            · have her := (nI_leI (a := er) (b := 40) (by omega) (by omega)).mp e2.2
              refine vm_r_aload_n rfl rfl rfl ?_
              refine vm_r_bipush (kI := nI 44) rfl ?_
              refine vm_r_cv2X rfl (by decide) (h4.ob) (Nat.le_of_ble_eq_true rfl) (vm_Ex_le (Nat.le_of_ble_eq_true rfl) (c_SC_takes h4 (by decide) (by omega))) (fun z5 μ5 q5 => ?_)
              obtain ⟨f5, ⟨d5, rfl, h5⟩ | ⟨d5, rfl, rfl⟩⟩ := q5
              · have i5 := pL_in (x := x) (n := n) (k := a2) (by omega)
                rw [if_pos d5] at d4
                have f15 := (f123.tr f4).tr f5
                refine vm_r_if_ne rfl (fun _ => ?_) (fun hn => absurd hn (not_not_intro (by decide)))
                refine vm_r_aload_n rfl rfl rfl ?_
                refine vm_r_cv1X rfl (by decide) (h5.ob) (Nat.le_of_ble_eq_true rfl) (vm_Ex_le (Nat.le_of_ble_eq_true rfl) (c_SC_takeSaying h5 (by omega))) (fun z6 μ6 q6 => ?_)
                obtain ⟨f6, ⟨d6, i6, rfl, h6⟩ | ⟨d6, rfl, a6, h6⟩⟩ := q6
                · obtain ⟨hok, hvd⟩ := pS_ok d6
                  have hlt := hok.1
                  refine vm_r_istore4 rfl rfl ?_
                  refine vm_r_iload rfl rfl ?_
                  refine vm_r_bipush rfl ?_
                  refine vm_r_icmp_eq rfl (fun hn => absurd hn (v_nI4 (by omega))) (fun _ => ?_)
                  refine vm_r_aload_n rfl rfl rfl ?_
                  refine vm_r_bipush (kI := nI 59) rfl ?_
                  refine vm_r_cv2X rfl (by decide) (h6.ob) (Nat.le_of_ble_eq_true rfl) (vm_Ex_le (Nat.le_of_ble_eq_true rfl) (c_SC_takes h6 (by decide) (by omega))) (fun z7 μ7 q7 => ?_)
                  obtain ⟨f7, ⟨d7, rfl, h7⟩ | ⟨d7, rfl, rfl⟩⟩ := q7
                  · have i7 := pL_in (x := x) (n := n) (k := a2 + 1 + 5) (by omega)
                    have f17 := (f15.tr f6).tr f7
                    have ht7 := ht.keep f17 (by omega)
                    refine vm_r_if_eq rfl (fun hn => absurd hn ((by decide))) (fun _ => ?_)
                    refine vm_r_aload_n rfl rfl rfl ?_
                    refine vm_r_iload_n rfl rfl rfl ?_
                    refine vm_r_iload_n rfl rfl rfl ?_
                    refine vm_r_iload rfl rfl ?_
                    refine vm_r_cv4X rfl (by decide) (ht7.s.ob) (Nat.le_of_ble_eq_true rfl) (vm_Ex_le (Nat.le_of_ble_eq_true rfl) (c_TN_addGate ht7 (by omega) her hok)) (fun z8 μ8 q8 => ?_)
                    obtain ⟨rfl, f8, g1, g2⟩ := q8
                    have hp := pG_6 d1 d2 hkd d4 her (pSY_y d6 d7)
                    first | refine vm_r_if_eqB rfl (fun e8 => ?_) (fun e8 => ?_) | refine vm_r_if_eqN rfl (by omega) (fun e8 => ?_) (fun e8 => ?_) | refine vm_r_if_eq rfl (fun e8 => ?_) (fun e8 => ?_)
                    · obtain rfl := g2 e8
                      refine vm_r_iconst (kI := nI 0) rfl ?_
                      refine vm_r_ret rfl (fun _ => by first | exact vm_bi_01 _ | decide) (⟨_, rfl, (vf2.s f17).tr (vf2.t f8), Or.inr ⟨fun _ _ _ _ _ => e8, rfl, ⟨_, h7⟩, ht7⟩⟩)
                    · refine vm_r_iconst (kI := nI 1) rfl ?_
                      refine vm_r_goto rfl ?_
                      refine vm_r_ret rfl (fun _ => by first | exact vm_bi_01 _ | decide) (⟨_, rfl, (vf2.s f17).tr (vf2.t f8), Or.inl ⟨_, _, _, _, hp, e8, rfl, h7.keep f8 (by omega), by omega, by omega, g1 e8⟩⟩)
                  · refine vm_r_if_eq rfl (fun _ => ?_) (fun hn => absurd hn ((by decide)))
                    refine vm_r_iconst (kI := nI 0) rfl ?_
                    refine vm_r_ret rfl (fun _ => by first | exact vm_bi_01 _ | decide) (bad _ _ (f15.tr f6) h6 (pG_5 d1 d2 d4 (pSY_n fun z => d7 z.2)))
                · refine vm_r_istore4 rfl rfl ?_
                  refine vm_r_iload rfl rfl ?_
                  refine vm_r_bipush rfl ?_
                  refine vm_r_icmp_eq rfl (fun _ => ?_) (fun hn => absurd hn (not_not_intro rfl))
                  refine vm_r_iconst (kI := nI 0) rfl ?_
                  refine vm_r_ret rfl (fun _ => by first | exact vm_bi_01 _ | decide) (bad _ _ (f15.tr f6) h6 (pG_5 d1 d2 d4 (pSY_n fun z => d6 z.1)))
              · rw [if_neg d5] at d4
                refine vm_r_if_ne rfl (fun hn => absurd hn (not_not_intro rfl)) (fun _ => ?_)
                refine vm_r_iconst (kI := nI 0) rfl ?_
                refine vm_r_ret rfl (fun _ => by first | exact vm_bi_01 _ | decide) (bad _ _ (f123.tr f4) h4 (pG_3 d1 d2 d4))
        · rw [if_neg d3] at d2
          refine vm_r_if_ne rfl (fun hn => absurd hn (not_not_intro rfl)) (fun _ => ?_)
          refine vm_r_iconst (kI := nI 0) rfl ?_
          refine vm_r_ret rfl (fun _ => by first | exact vm_bi_01 _ | decide) (bad _ _ (f1.tr f2) h2 (pG_1 d1 d2))
  · refine vm_r_if_ne rfl (fun hn => absurd hn (not_not_intro rfl)) (fun _ => ?_)
    refine vm_r_iconst (kI := nI 0) rfl ?_
    refine vm_r_ret rfl (fun _ => by first | exact vm_bi_01 _ | decide) (bad _ _ f1 h (pG_0 d1))
theorem c_SC_readInto {a0 : Nat} (h : vS μ s x n a0) (ht : vs_T μ.1 t) (hd : s + 1 < t ∨ t + 5 < s) : vm_Ex E 5 n_SC_readInto [.ref s, .ref t] 0 0 μ (vm_PX (fun z μ' => vf2 μ μ' s t ∧ z = pZ (pA x n 200 vt0 0).1 ∧ (∃ a', vS μ' s x n a') ∧ ((pA x n 200 vt0 0).1 = none → vt_C μ' t (pA x n 200 vt0 0).2))) := by
  have hn := h.n200
  refine vm_start (D := 4) (by decide) rfl (Nat.le_of_ble_eq_true rfl) (k := k_SC_readInto) rfl (L := [.ref s, .ref t, .retAddr 0, .retAddr 0]) rfl ?_
  refine vm_r_aload_n rfl rfl rfl ?_
  refine vm_r_cv1V rfl (by decide) (vs_T.ob ht) (Nat.le_of_ble_eq_true rfl) (vm_Ex_le (Nat.le_of_ble_eq_true rfl) (c_TN_clear ht)) (fun μ1 q1 => ?_)
  obtain ⟨f1, ht1⟩ := q1
  have h1 := h.keep f1 (by omega)
  have h1' := h1.at 0
  have ht1' := ht1.keep (vf.mI (μ := μ1) (o := s) (k := 2) (v := nI 0) (Nat.le_refl s) (Nat.le_refl s)) (by omega)
  have f1' : vf2 μ (vm_mI μ1 s 2 (nI 0)) s t := (vf2.t (f1.wd (Nat.le_refl t) (by omega))).tr (vf2.s (vf.mI (Nat.le_refl s) (Nat.le_refl s)))
  refine vm_r_aload_n rfl rfl rfl ?_
  refine vm_r_iconst (kI := nI 0) rfl ?_
  refine vm_r_putI rfl (h1.wA) ?_
  refine vm_r_iconst (kI := nI 0) rfl ?_
  refine vm_r_istore_n2 rfl rfl rfl ?_
  generalize hR : pA x n 200 vt0 0 = RR
  refine vm_up (P := fun i => ∀ (μ2 : vm_M) (U : vt_T) (b : Nat) (v : Value), vm_nlv v = true → vf2 μ μ2 s t → vS μ2 s x n b → vt_C μ2 t U → b ≤ n → i ≤ b → RR = pA x n (200 - i) U b → vm_W E (vm_Ex E 4) k_SC_readInto _ (11, [.ref s, .ref t, .int (nI i), v], [], 0, 0, μ2)) (N := 200) ?_ ?_ 0 (by decide) _ vt0 0 (.retAddr 0) rfl f1' h1' ht1' (by omega) (by omega) hR.symm
  · intro μ2 U b v hv f2 h2 ht2 hbn hib he
    have e2 : RR = (none, U) := by
      rw [he]
      rfl
    rw [e2]
    refine vm_r_iload_n rfl rfl rfl ?_
    refine vm_r_sipush (kI := nI 200) rfl ?_
    first | refine vm_r_icmp_geN rfl (by omega) (by omega) (fun _ => ?_) (fun hn => absurd hn (by omega)) | refine vm_r_icmp_ge rfl (fun _ => ?_) (fun hn => absurd hn (by omega))
    refine vm_r_bipush rfl ?_
    refine vm_r_ret rfl (fun h => by cases h) (⟨_, rfl, f2, rfl, ⟨_, h2⟩, fun _ => ht2⟩)
  · intro i hi ih μ2 U b v hv f2 h2 ht2 hbn hib he
    obtain ⟨m, hm⟩ : ∃ m, 200 - i = m + 1 := ⟨200 - i - 1, by omega⟩
    rw [hm, pA_s] at he
    refine vm_r_iload_n rfl rfl rfl ?_
    refine vm_r_sipush (kI := nI 200) rfl ?_
    first | refine vm_r_icmp_geN rfl (by omega) (by omega) (fun hn => absurd hn (by omega)) (fun _ => ?_) | refine vm_r_icmp_ge rfl (fun hn => absurd hn (by omega)) (fun _ => ?_)
    refine vm_r_aload_n rfl rfl rfl ?_
    refine vm_r_getI rfl (h2.gA) ?_
    refine vm_r_aload_n rfl rfl rfl ?_
    refine vm_r_getI rfl (h2.gN) ?_
    first | refine vm_r_icmp_geN rfl (by omega) (by omega) (fun e => ?_) (fun e => ?_) | refine vm_r_icmp_ge rfl (fun e => ?_) (fun e => ?_)
    · rw [if_neg (by omega)] at he
      rw [he]
      refine vm_r_bipush rfl ?_
      refine vm_r_ret rfl (fun h => by cases h) (⟨_, rfl, f2, rfl, ⟨_, h2⟩, fun _ => ht2⟩)
    · rw [if_pos e] at he
      refine vm_r_aload_n rfl rfl rfl ?_
      refine vm_r_getI rfl (h2.gA) ?_
      refine vm_r_istore_n3 rfl rfl rfl ?_
      refine vm_r_aload_n rfl rfl rfl ?_
      refine vm_r_aload_n rfl rfl rfl ?_
      refine vm_r_cv2X rfl (by decide) (h2.ob) (Nat.le_of_ble_eq_true rfl) (vm_Ex_le (Nat.le_of_ble_eq_true rfl) (c_SC_readGate h2 hbn ht2 hd)) (fun z3 μ3 q3 => ?_)
      obtain ⟨f3, ⟨kd, er, c, b', hp, hg5, rfl, h3, hb', hbb, ht3⟩ | ⟨hno, rfl, ⟨b3, h3⟩, ht3⟩⟩ := q3
      · rw [hp] at he
        dsimp only at he
        rw [if_pos hg5] at he
        refine vm_r_if_ne rfl (fun _ => ?_) (fun hn => absurd hn (not_not_intro (by decide)))
        first | refine vm_r_iinc2N (y := 1) rfl rfl ?_ | refine vm_r_iinc2 rfl rfl ?_
        refine vm_r_goto rfl ?_
        exact ih _ _ _ _ rfl (f2.tr f3) h3 ht3 hb' (by omega) (by rw [he, show 200 - (i + 1) = m by omega])
      · have h3' := h3.at b
        have ht3' := ht3.keep (vf.mI (μ := μ3) (o := s) (k := 2) (v := nI b) (Nat.le_refl s) (Nat.le_refl s)) (by omega)
        have f3' : vf2 μ2 (vm_mI μ3 s 2 (nI b)) s t := f3.tr (vf2.s (vf.mI (Nat.le_refl s) (Nat.le_refl s)))
        refine vm_r_if_ne rfl (fun hn => absurd hn (not_not_intro rfl)) (fun _ => ?_)
        refine vm_r_aload_n rfl rfl rfl ?_
        refine vm_r_iload_n rfl rfl rfl ?_
        refine vm_r_putI rfl (h3.wA) ?_
        refine vm_r_aload_n rfl rfl rfl ?_
        refine vm_r_aload_n rfl rfl rfl ?_
        refine vm_r_cv2X rfl (by decide) (h3'.ob) (Nat.le_of_ble_eq_true rfl) (vm_Ex_le (Nat.le_of_ble_eq_true rfl) (c_SC_readPerson h3' hbn ht3' hd)) (fun z4 μ4 q4 => ?_)
        obtain ⟨f4, ⟨c, b', hp, hp6, rfl, h4, hb', hbb, ht4⟩ | ⟨hno4, rfl, h4⟩⟩ := q4
        · have hg : pG x n b = none := by
            cases hq : pG x n b with
            | none => rfl
            | some y =>
              exfalso
              unfold pG at hq
              unfold pP at hp
              by_cases y1 : pL x n b = 103
              · rw [if_neg (by omega)] at hp
                cases hp
              · rw [if_neg y1] at hq
                cases hq
          rw [hg] at he
          dsimp only at he
          rw [hp] at he
          dsimp only at he
          rw [if_pos hp6] at he
          refine vm_r_if_ne rfl (fun _ => ?_) (fun hn => absurd hn (not_not_intro (by decide)))
          first | refine vm_r_iinc2N (y := 1) rfl rfl ?_ | refine vm_r_iinc2 rfl rfl ?_
          refine vm_r_goto rfl ?_
          exact ih _ _ _ _ rfl ((f2.tr f3').tr f4) h4 ht4 hb' (by omega) (by rw [he, show 200 - (i + 1) = m by omega])
        · have he2 : RR = (some b, U) := by
            rw [he]
            cases hq : pG x n b with
            | some y =>
              obtain ⟨⟨kd, er, c⟩, b'⟩ := y
              dsimp only
              rw [if_neg (hno _ _ _ _ hq)]
            | none =>
              dsimp only
              cases hq2 : pP x n b with
              | none => rfl
              | some y =>
                obtain ⟨c, b'⟩ := y
                dsimp only
                rw [if_neg (hno4 _ _ hq2)]
          rw [he2]
          refine vm_r_if_ne rfl (fun hn => absurd hn (not_not_intro rfl)) (fun _ => ?_)
          refine vm_r_iload_n rfl rfl rfl ?_
          refine vm_r_ret rfl (fun h => by cases h) (⟨_, rfl, (f2.tr f3').tr f4, rfl, h4, fun z => by cases z⟩)
end SCRIPT
