/-! The model's acts on its side row. -/
theorem vab_comm (x y : Nat) : vab x y = vab y x := by
  unfold vab
  omega
theorem vfd_cong {f f' g g' : Nat → Nat} (hf : ∀ k, k < 5 → f k = f' k) (hg : ∀ k, k < 5 → g k = g' k) : vfd f g = vfd f' g' := by
  unfold vfd
  refine fa_first_eq (fa_first_le _ 5) (fun j hj => ?_) (fun hj => ?_)
  · have hl := fa_first_le (fun j => decide (f' j ≠ g' j)) 5
    rw [hf j (by omega), hg j (by omega)]
    exact fa_first_no (fun j => decide (f' j ≠ g' j)) 5 j hj
  · rw [hf _ hj, hg _ hj]
    exact fa_first_yes (fun j => decide (f' j ≠ g' j)) 5 hj
/-- downward: the place, the gap there, of the n last places -/
def vdw (w : Nat) (f : Nat → Nat) : Nat → Nat × Nat
  | 0 => (5, 0)
  | n + 1 => if 0 < f (4 - n) ∧ (w = 1 → (vdw w f n).2 ≤ f (4 - n)) then (4 - n, f (4 - n)) else vdw w f n
theorem vdw_s (w : Nat) (f : Nat → Nat) (n : Nat) : vdw w f (n + 1) = if 0 < f (4 - n) ∧ (w = 1 → (vdw w f n).2 ≤ f (4 - n)) then (4 - n, f (4 - n)) else vdw w f n := rfl
theorem vwd_ch (f : Nat → Nat) : ∀ n, n ≤ 5 → (((vwd f n).1 = 5 ∧ (vwd f n).2 = 0 ∧ ∀ i, i < n → f i = 0) ∨ ((vwd f n).1 < n ∧ f (vwd f n).1 = (vwd f n).2 ∧ 0 < (vwd f n).2 ∧ (∀ i, i < n → f i ≤ (vwd f n).2) ∧ ∀ i, i < (vwd f n).1 → f i < (vwd f n).2))
  | 0, _ => Or.inl ⟨rfl, rfl, fun i hi => by omega⟩
  | n + 1, h => by
    have ih := vwd_ch f n (by omega)
    rw [vwd_s]
    generalize vwd f n = r at ih
    obtain ⟨a, b⟩ := r
    by_cases e : b < f n
    · rw [if_pos e]
      refine Or.inr ⟨Nat.lt_succ_self n, rfl, by omega, fun i hi => ?_, fun i hi => ?_⟩
      · rcases Nat.lt_or_ge i n with q | q
        · rcases ih with ⟨-, rfl, h3⟩ | ⟨-, -, -, h3, -⟩
          · rw [h3 i q]
            exact Nat.zero_le _
          · have := h3 i q
            omega
        · obtain rfl : i = n := by omega
          exact Nat.le_refl _
      · have hi : i < n := hi
        rcases ih with ⟨-, rfl, h3⟩ | ⟨-, -, -, h3, -⟩
        · show f i < f n
          rw [h3 i hi]
          exact e
        · exact Nat.lt_of_le_of_lt (h3 i hi) e
    · rw [if_neg e]
      rcases ih with ⟨h1, h2, h3⟩ | ⟨h1, h2, h3, h4, h5⟩
      · refine Or.inl ⟨h1, h2, fun i hi => ?_⟩
        rcases Nat.lt_or_ge i n with q | q
        · exact h3 i q
        · obtain rfl : i = n := by omega
          have h2 : b = 0 := h2
          omega
      · refine Or.inr ⟨by show a < n + 1; have h1 : a < n := h1; omega, h2, h3, fun i hi => ?_, h5⟩
        rcases Nat.lt_or_ge i n with q | q
        · exact h4 i q
        · obtain rfl : i = n := by omega
          show f i ≤ b
          omega
theorem vdw_ch (f : Nat → Nat) : ∀ n, n ≤ 5 → (((vdw 1 f n).1 = 5 ∧ (vdw 1 f n).2 = 0 ∧ ∀ i, 5 - n ≤ i → i < 5 → f i = 0) ∨ (5 - n ≤ (vdw 1 f n).1 ∧ (vdw 1 f n).1 < 5 ∧ f (vdw 1 f n).1 = (vdw 1 f n).2 ∧ 0 < (vdw 1 f n).2 ∧ (∀ i, 5 - n ≤ i → i < 5 → f i ≤ (vdw 1 f n).2) ∧ ∀ i, 5 - n ≤ i → i < (vdw 1 f n).1 → f i < (vdw 1 f n).2))
  | 0, _ => Or.inl ⟨rfl, rfl, fun i hi h2 => by omega⟩
  | n + 1, h => by
    have ih := vdw_ch f n (by omega)
    rw [vdw_s]
    generalize vdw 1 f n = r at ih
    obtain ⟨a, b⟩ := r
    have hs : ∀ i, 5 - (n + 1) ≤ i → 5 - n ≤ i ∨ i = 4 - n := fun i hi => by omega
    by_cases e : 0 < f (4 - n) ∧ (1 = 1 → b ≤ f (4 - n))
    · rw [if_pos e]
      have e2 := e.2 rfl
      refine Or.inr ⟨by show 5 - (n + 1) ≤ 4 - n; omega, by show 4 - n < 5; omega, rfl, e.1, fun i hi h5 => ?_, fun i hi h5 => ?_⟩
      · show f i ≤ f (4 - n)
        rcases hs i hi with q | q
        · rcases ih with ⟨-, -, h3⟩ | ⟨-, -, -, -, h3, -⟩
          · rw [h3 i q h5]
            exact Nat.zero_le _
          · exact Nat.le_trans (h3 i q h5) e2
        · rw [q]
          exact Nat.le_refl _
      · have h5 : i < 4 - n := h5
        omega
    · rw [if_neg e]
      have e3 : f (4 - n) ≤ b ∧ (b = 0 → f (4 - n) = 0) ∧ (0 < b → f (4 - n) < b) := by
        refine ⟨?_, ?_, ?_⟩
        · apply Classical.byContradiction
          intro q
          exact e ⟨by omega, fun _ => by omega⟩
        · intro q
          apply Classical.byContradiction
          intro y
          exact e ⟨by omega, fun _ => by omega⟩
        · intro q
          apply Classical.byContradiction
          intro y
          exact e ⟨by omega, fun _ => by omega⟩
      rcases ih with ⟨h1, h2, h3⟩ | ⟨h0, h1, h2, h3, h4, h5⟩
      · refine Or.inl ⟨h1, h2, fun i hi h5 => ?_⟩
        rcases hs i hi with q | q
        · exact h3 i q h5
        · rw [q]
          exact e3.2.1 h2
      · refine Or.inr ⟨by show 5 - (n + 1) ≤ a; have h0 : 5 - n ≤ a := h0; omega, h1, h2, h3, fun i hi h6 => ?_, fun i hi h6 => ?_⟩
        · rcases hs i hi with q | q
          · exact h4 i q h6
          · rw [q]
            exact e3.1
        · rcases hs i hi with q | q
          · exact h5 i q h6
          · rw [q]
            exact e3.2.2 h3
theorem vdw_1 (f : Nat → Nat) : (vdw 1 f 5).1 = (vwd f 5).1 := by
  have h1 := vwd_ch f 5 (Nat.le_refl 5)
  have h2 := vdw_ch f 5 (Nat.le_refl 5)
  generalize vwd f 5 = r at h1
  generalize vdw 1 f 5 = s at h2
  obtain ⟨a, b⟩ := r
  obtain ⟨c, d⟩ := s
  show c = a
  rcases h1 with ⟨x1, x2, x3⟩ | ⟨x1, x2, x3, x4, x5⟩ <;> rcases h2 with ⟨y1, y2, y3⟩ | ⟨y0, y1, y2, y3, y4, y5⟩
  · exact y1.trans x1.symm
  · have q := x3 c y1
    have q2 : f c = d := y2
    have q3 : 0 < d := y3
    omega
  · have q := y3 a (by omega) x1
    have q2 : f a = b := x2
    have q3 : 0 < b := x3
    omega
  · have q2 : f a = b := x2
    have q3 : f c = d := y2
    have q4 : f a ≤ d := y4 a (by omega) x1
    have q5 : f c ≤ b := x4 c y1
    rcases Nat.lt_trichotomy a c with q | q | q
    · have : f a < d := y5 a (by omega) q
      omega
    · exact q.symm
    · have : f c < b := x5 c q
      omega
theorem vdw_0c (f : Nat → Nat) : ∀ n, n ≤ 5 → (vdw 0 f n).1 ≤ 5 ∧ 5 - n ≤ (vdw 0 f n).1 ∧ (∀ i, 5 - n ≤ i → i < (vdw 0 f n).1 → f i = 0) ∧ ((vdw 0 f n).1 < 5 → 0 < f (vdw 0 f n).1)
  | 0, _ => ⟨Nat.le_refl 5, Nat.le_refl 5, fun i h1 h2 => by have h2 : i < 5 := h2; omega, fun h => absurd (show 5 < 5 from h) (by decide)⟩
  | n + 1, h => by
    have ih := vdw_0c f n (by omega)
    rw [vdw_s]
    by_cases e : 0 < f (4 - n)
    · rw [if_pos ⟨e, fun q => absurd q (by decide)⟩]
      exact ⟨by show 4 - n ≤ 5; omega, by show 5 - (n + 1) ≤ 4 - n; omega, fun i h1 h2 => by have h2 : i < 4 - n := h2; omega, fun _ => e⟩
    · rw [if_neg (fun q => e q.1)]
      refine ⟨ih.1, by omega, fun i h1 h2 => ?_, ih.2.2.2⟩
      by_cases q : i = 4 - n
      · subst q
        omega
      · exact ih.2.2.1 i (by omega) h2
theorem vdw_0 (f g : Nat → Nat) : (vdw 0 (fun k => vab (f k) (g k)) 5).1 = vfd f g := by
  obtain ⟨h1, -, h2, h3⟩ := vdw_0c (fun k => vab (f k) (g k)) 5 (Nat.le_refl 5)
  refine (fa_first_eq h1 (fun j hj => ?_) (fun hj => ?_)).symm
  · have := vab_0.mp (h2 j (by omega) hj)
    simp [this]
  · have := h3 hj
    have q : ¬ f (vdw 0 (fun k => vab (f k) (g k)) 5).1 = g (vdw 0 (fun k => vab (f k) (g k)) 5).1 := fun q => by have := vab_0.mpr q; omega
    simp [q]
def v_d4 (n : Nat) : Int32 := if n = 5 then -1 else nI (4 - n)
theorem v_d4_s : ∀ n, n < 5 → nI (4 - n) + (-1) = v_d4 (n + 1) := by decide +kernel
theorem vo_neg {k : Nat} : ¬ vo k = -4 → k < 5 := fun h => Classical.byContradiction fun q => h (vo_ge q)
section MOD2
variable {E : vm_V} {μ : vm_M} {m : Nat} {z : vZ} {T : vt_T}
theorem c_M_isGate (h : vM μ m z) (hG : tG (zT z) ≤ 5) (x : Int32) : vm_Ex E 2 n_M_isGate [.ref m, .int x] 0 0 μ (vm_PI (vm_bi (vix x (tG (zT z)))) μ) := by
  have e1 : nI (tG (zT z)) - 1 = nI (tG (zT z)) - nI 1 := rfl
  have e2 : (0 ≤ x ∧ x ≤ nI (tG (zT z)) - nI 1) ↔ vix x (tG (zT z)) := by
    constructor
    · rintro ⟨h1, h2⟩
      refine ⟨h1, ?_⟩
      obtain ⟨j, h3, rfl⟩ := nI_of (Int32.not_lt.mpr h1)
      rcases Nat.eq_zero_or_pos (tG (zT z)) with q | q
      · rw [q] at h2
        have q3 : nI 0 - nI 1 = -1 := by decide
        rw [q3] at h2
        have h4 : ¬ (0 : Int32) ≤ -1 := by decide
        exact absurd (Int32.le_trans (nI_pos' h3) h2) h4
      · rw [pk_sub q] at h2
        exact nI_lt (by have := (nI_leI h3 (by omega)).mp h2; omega) (by omega)
    · rintro ⟨h1, h2⟩
      refine ⟨h1, ?_⟩
      obtain ⟨j, h3, rfl⟩ := nI_of (Int32.not_lt.mpr h1)
      have h4 := (nI_ltI h3 (by omega)).mp h2
      rw [pk_sub (by omega)]
      exact nI_le (by omega) (by omega)
  refine vm_start (D := 1) (by decide) rfl (Nat.le_of_ble_eq_true rfl) (k := k_M_isGate) rfl (L := [.ref m, .int x]) rfl ?_
  refine vm_r_iload_n rfl rfl rfl ?_
  refine vm_r_i2l rfl ?_
  refine vm_r_lconst (kL := lN 0) rfl ?_
  refine vm_r_aload_n rfl rfl rfl ?_
  refine vm_r_getR rfl (h.1.r2) ?_
  refine vm_r_iconst (kI := nI 0) rfl ?_
  refine vm_r_iaload rfl (h.1.s2) (by omega) (by omega) (h.2.2.1.1) ?_
  refine vm_r_iconst (kI := nI 1) rfl ?_
  refine vm_r_isub rfl ?_
  refine vm_r_i2l rfl ?_
  refine vm_r_cs3I rfl (by decide) (Nat.le_of_ble_eq_true rfl) (vm_Ex_le (by first | exact Nat.le_of_ble_eq_true rfl | omega) (c_M_in (x := x) (lo := 0) (hi := nI (tG (zT z)) - nI 1) rfl (by decide) rfl)) ?_
  refine vm_r_ret rfl (fun _ => by first | exact vm_bi_01 _ | decide) (vm_PI.of (vm_bi_c e2.symm))
theorem c_M_isPerson (h : vM μ m z) (hP : tP (zT z) ≤ 6) (x : Int32) : vm_Ex E 2 n_M_isPerson [.ref m, .int x] 0 0 μ (vm_PI (vm_bi (vix x (tP (zT z)))) μ) := by
  have e2 : (0 ≤ x ∧ x ≤ nI (tP (zT z)) - nI 1) ↔ vix x (tP (zT z)) := by
    constructor
    · rintro ⟨h1, h2⟩
      refine ⟨h1, ?_⟩
      obtain ⟨j, h3, rfl⟩ := nI_of (Int32.not_lt.mpr h1)
      rcases Nat.eq_zero_or_pos (tP (zT z)) with q | q
      · rw [q] at h2
        have q3 : nI 0 - nI 1 = -1 := by decide
        rw [q3] at h2
        have h4 : ¬ (0 : Int32) ≤ -1 := by decide
        exact absurd (Int32.le_trans (nI_pos' h3) h2) h4
      · rw [pk_sub q] at h2
        exact nI_lt (by have := (nI_leI h3 (by omega)).mp h2; omega) (by omega)
    · rintro ⟨h1, h2⟩
      refine ⟨h1, ?_⟩
      obtain ⟨j, h3, rfl⟩ := nI_of (Int32.not_lt.mpr h1)
      have h4 := (nI_ltI h3 (by omega)).mp h2
      rw [pk_sub (by omega)]
      exact nI_le (by omega) (by omega)
  refine vm_start (D := 1) (by decide) rfl (Nat.le_of_ble_eq_true rfl) (k := k_M_isPerson) rfl (L := [.ref m, .int x]) rfl ?_
  refine vm_r_iload_n rfl rfl rfl ?_
  refine vm_r_i2l rfl ?_
  refine vm_r_lconst (kL := lN 0) rfl ?_
  refine vm_r_aload_n rfl rfl rfl ?_
  refine vm_r_getR rfl (h.1.r2) ?_
  refine vm_r_iconst (kI := nI 1) rfl ?_
  refine vm_r_iaload rfl (h.1.s2) (by omega) (by omega) (h.2.2.1.2.1) ?_
  refine vm_r_iconst (kI := nI 1) rfl ?_
  refine vm_r_isub rfl ?_
  refine vm_r_i2l rfl ?_
  refine vm_r_cs3I rfl (by decide) (Nat.le_of_ble_eq_true rfl) (vm_Ex_le (by first | exact Nat.le_of_ble_eq_true rfl | omega) (c_M_in (x := x) (lo := 0) (hi := nI (tP (zT z)) - nI 1) rfl (by decide) rfl)) ?_
  refine vm_r_ret rfl (fun _ => by first | exact vm_bi_01 _ | decide) (vm_PI.of (vm_bi_c e2.symm))
theorem vRow.cong {I I' : Nat → Int32} (h : vRow I T) (hT : vt_ok T) (e : ∀ k, k < 63 → I' k = I k) : vRow I' T := by
  have hG := hT.1
  have hP := hT.2.1
  obtain ⟨h1, h2, h3, h4, h5⟩ := h
  refine ⟨fun g k hg hk => by rw [e _ (by omega)]; exact h1 g k hg hk, fun p k hp hk => by rw [e _ (by omega)]; exact h2 p k hp hk, fun p hp => by rw [e _ (by omega)]; exact h3 p hp, by rw [e _ (by omega)]; exact h4, by rw [e _ (by omega)]; exact h5⟩
theorem c_M_aside (h : vMh μ.1 m) : vm_Ex E 1 n_M_aside [.ref m] 0 0 μ (vm_PV (fun μ' => vf μ μ' (m + 6) (m + 6) ∧ ∀ k, k < 63 → μ'.2.1 (m + 6) k = μ.2.1 (m + 5) k)) := by
  refine vm_start (D := 0) (by decide) rfl (Nat.le_of_ble_eq_true rfl) (k := k_M_aside) rfl (L := [.ref m, .retAddr 0]) rfl ?_
  refine vm_r_iconst (kI := nI 0) rfl ?_
  refine vm_r_istore_n1 rfl rfl rfl ?_
  refine vm_up (P := fun i => ∀ μ' : vm_M, vf μ μ' (m + 6) (m + 6) → (∀ k, k < i → μ'.2.1 (m + 6) k = μ.2.1 (m + 5) k) → vm_W E (vm_Ex E 0) k_M_aside _ (2, [.ref m, .int (nI i)], [], 0, 0, μ')) (N := 63) ?_ ?_ 0 (by omega) μ vf.rf (fun k hk => by omega)
  · intro μ' f hk
    refine vm_r_iload_n rfl rfl rfl ?_
    refine vm_r_bipush (kI := nI 63) rfl ?_
    first | refine vm_r_icmp_geN rfl (by omega) (by omega) (fun _ => ?_) (fun hn => absurd hn (by omega)) | refine vm_r_icmp_ge rfl (fun _ => ?_) (fun hn => absurd hn (by omega))
    refine vm_r_vret rfl (⟨rfl, f, hk⟩)
  · intro i hi ih μ' f hk
    have h' : vMh μ'.1 m := by rw [f.1]; exact h
    refine vm_r_iload_n rfl rfl rfl ?_
    refine vm_r_bipush (kI := nI 63) rfl ?_
    first | refine vm_r_icmp_geN rfl (by omega) (by omega) (fun hn => absurd hn (by omega)) (fun _ => ?_) | refine vm_r_icmp_ge rfl (fun hn => absurd hn (by omega)) (fun _ => ?_)
    refine vm_r_aload_n rfl rfl rfl ?_
    refine vm_r_getR rfl (h'.r6) ?_
    refine vm_r_iload_n rfl rfl rfl ?_
    refine vm_r_aload_n rfl rfl rfl ?_
    refine vm_r_getR rfl (h'.r5) ?_
    refine vm_r_iload_n rfl rfl rfl ?_
    refine vm_r_iaload rfl (h'.s5) (by omega) (by omega) (rfl) ?_
    refine vm_r_iastore rfl (h'.s6) (by omega) (by omega) ?_
    first | refine vm_r_iinc1N (y := 1) rfl rfl ?_ | refine vm_r_iinc1 rfl rfl ?_
    refine vm_r_goto rfl ?_
    refine ih _ (f.tr (vf.mI (Nat.le_refl _) (Nat.le_refl _))) (fun k hk2 => ?_)
    by_cases e : k = i
    · subst e
      rw [rI_eq, f.2.2 _ (by omega)]
    · rw [rI_nk e]
      exact hk k (by omega)
theorem c_M_take (h : vMh μ.1 m) : vm_Ex E 1 n_M_take [.ref m] 0 0 μ (vm_PV (fun μ' => vf μ μ' (m + 5) (m + 5) ∧ ∀ k, k < 63 → μ'.2.1 (m + 5) k = μ.2.1 (m + 6) k)) := by
  refine vm_start (D := 0) (by decide) rfl (Nat.le_of_ble_eq_true rfl) (k := k_M_take) rfl (L := [.ref m, .retAddr 0]) rfl ?_
  refine vm_r_iconst (kI := nI 0) rfl ?_
  refine vm_r_istore_n1 rfl rfl rfl ?_
  refine vm_up (P := fun i => ∀ μ' : vm_M, vf μ μ' (m + 5) (m + 5) → (∀ k, k < i → μ'.2.1 (m + 5) k = μ.2.1 (m + 6) k) → vm_W E (vm_Ex E 0) k_M_take _ (2, [.ref m, .int (nI i)], [], 0, 0, μ')) (N := 63) ?_ ?_ 0 (by omega) μ vf.rf (fun k hk => by omega)
  · intro μ' f hk
    refine vm_r_iload_n rfl rfl rfl ?_
    refine vm_r_bipush (kI := nI 63) rfl ?_
    first | refine vm_r_icmp_geN rfl (by omega) (by omega) (fun _ => ?_) (fun hn => absurd hn (by omega)) | refine vm_r_icmp_ge rfl (fun _ => ?_) (fun hn => absurd hn (by omega))
    refine vm_r_vret rfl (⟨rfl, f, hk⟩)
  · intro i hi ih μ' f hk
    have h' : vMh μ'.1 m := by rw [f.1]; exact h
    refine vm_r_iload_n rfl rfl rfl ?_
    refine vm_r_bipush (kI := nI 63) rfl ?_
    first | refine vm_r_icmp_geN rfl (by omega) (by omega) (fun hn => absurd hn (by omega)) (fun _ => ?_) | refine vm_r_icmp_ge rfl (fun hn => absurd hn (by omega)) (fun _ => ?_)
    refine vm_r_aload_n rfl rfl rfl ?_
    refine vm_r_getR rfl (h'.r5) ?_
    refine vm_r_iload_n rfl rfl rfl ?_
    refine vm_r_aload_n rfl rfl rfl ?_
    refine vm_r_getR rfl (h'.r6) ?_
    refine vm_r_iload_n rfl rfl rfl ?_
    refine vm_r_iaload rfl (h'.s6) (by omega) (by omega) (rfl) ?_
    refine vm_r_iastore rfl (h'.s5) (by omega) (by omega) ?_
    first | refine vm_r_iinc1N (y := 1) rfl rfl ?_ | refine vm_r_iinc1 rfl rfl ?_
    refine vm_r_goto rfl ?_
    refine ih _ (f.tr (vf.mI (Nat.le_refl _) (Nat.le_refl _))) (fun k hk2 => ?_)
    by_cases e : k = i
    · subst e
      rw [rI_eq, f.2.2 _ (by omega)]
    · rw [rI_nk e]
      exact hk k (by omega)
theorem c_M_farBy {g kd s c : Nat} (h : vMh μ.1 m) (hs : vSay μ m s) (hc : ∀ k, k < 5 → μ.2.1 (m + 6) (5 * g + k) = nI (vd c k)) (hg : g < 5) (hd : kd < 4) : vm_Ex E 2 n_M_farBy [.ref m, .int (nI g), .int (nI kd)] 0 0 μ (vm_PI (nI (vdn kd s c 5)) μ) := by
  refine vm_start (D := 1) (by decide) rfl (Nat.le_of_ble_eq_true rfl) (k := k_M_farBy) rfl (L := [.ref m, .int (nI g), .int (nI kd), .retAddr 0, .retAddr 0, .retAddr 0, .retAddr 0]) rfl ?_
  refine vm_r_iconst (kI := nI 0) rfl ?_
  refine vm_r_istore_n3 rfl rfl rfl ?_
  refine vm_r_iconst (kI := nI 0) rfl ?_
  refine vm_r_istore4 rfl rfl ?_
  refine vm_up (P := fun i => ∀ v w : Value, vm_W E (vm_Ex E 1) k_M_farBy _ (5, [.ref m, .int (nI g), .int (nI kd), .int (nI (vdn kd s c i)), .int (nI i), v, w], [], 0, 0, μ)) (N := 5) ?_ ?_ 0 (by omega) (.retAddr 0) (.retAddr 0)
  · intro v w
    refine vm_r_iload rfl rfl ?_
    refine vm_r_iconst (kI := nI 5) rfl ?_
    first | refine vm_r_icmp_geN rfl (by omega) (by omega) (fun _ => ?_) (fun hn => absurd hn (by omega)) | refine vm_r_icmp_ge rfl (fun _ => ?_) (fun hn => absurd hn (by omega))
    refine vm_r_iload_n rfl rfl rfl ?_
    refine vm_r_ret rfl (fun h => by cases h) (vm_PI.of rfl)
  · intro i hi ih v w
    have d1 := vd_lt c i
    have d2 := vd_lt s i
    have e1 : vdn kd s c (i + 1) = vdn kd s c i + vwt kd i * vab (vd s i) (vd c i) := rfl
    rw [e1, vab_comm] at ih
    refine vm_r_iload rfl rfl ?_
    refine vm_r_iconst (kI := nI 5) rfl ?_
    first | refine vm_r_icmp_geN rfl (by omega) (by omega) (fun hn => absurd hn (by omega)) (fun _ => ?_) | refine vm_r_icmp_ge rfl (fun hn => absurd hn (by omega)) (fun _ => ?_)
    refine vm_r_aload_n rfl rfl rfl ?_
    refine vm_r_getR rfl (h.r6) ?_
    refine vm_r_iconst (kI := nI 5) rfl ?_
    refine vm_r_iload_n rfl rfl rfl ?_
    first | refine vm_r_imulN rfl ?_ | refine vm_r_imul rfl ?_
    refine vm_r_iload rfl rfl ?_
    first | refine vm_r_iaddN rfl ?_ | refine vm_r_iadd rfl ?_
    refine vm_r_iaload rfl (h.s6) (by omega) (by omega) (hc i hi) ?_
    refine vm_r_aload_n rfl rfl rfl ?_
    refine vm_r_getR rfl (h.r12) ?_
    refine vm_r_iload rfl rfl ?_
    refine vm_r_iaload rfl (h.s12) (by omega) (by omega) (hs i hi) ?_
    refine vm_r_isub rfl ?_
    refine vm_r_cs1I rfl (by decide) (Nat.le_of_ble_eq_true rfl) (vm_Ex_le (by first | exact Nat.le_of_ble_eq_true rfl | omega) (c_M_size (by omega) (by omega))) ?_
    refine vm_r_istore5 rfl rfl ?_
    have fin : ∀ wt, wt = vwt kd i → vm_W E (vm_Ex E 1) k_M_farBy (vm_PI (nI (vdn kd s c 5)) μ) (74, [.ref m, .int (nI g), .int (nI kd), .int (nI (vdn kd s c i)), .int (nI i), .int (nI (vab (vd c i) (vd s i))), w], [.int (nI wt)], 0, 0, μ) := by
      rintro wt rfl
      refine vm_r_istore6 rfl rfl ?_
      refine vm_r_iload_n rfl rfl rfl ?_
      refine vm_r_iload rfl rfl ?_
      refine vm_r_iload rfl rfl ?_
      first | refine vm_r_imulN rfl ?_ | refine vm_r_imul rfl ?_
      first | refine vm_r_iaddN rfl ?_ | refine vm_r_iadd rfl ?_
      refine vm_r_istore_n3 rfl rfl rfl ?_
      first | refine vm_r_iinc4N (y := 1) rfl rfl ?_ | refine vm_r_iinc4 rfl rfl ?_
      refine vm_r_goto rfl ?_
      exact ih _ _
    unfold vwt at fin
    refine vm_r_iload_n rfl rfl rfl ?_
    refine vm_r_iconst (kI := nI 3) rfl ?_
    first | refine vm_r_icmp_neN rfl (by omega) (by omega) (fun e => ?_) (fun e => ?_) | refine vm_r_icmp_ne rfl (fun e => ?_) (fun e => ?_)
    · refine vm_r_iload_n rfl rfl rfl ?_
      refine vm_r_iconst (kI := nI 1) rfl ?_
      first | refine vm_r_icmp_neN rfl (by omega) (by omega) (fun f => ?_) (fun f => ?_) | refine vm_r_icmp_ne rfl (fun f => ?_) (fun f => ?_)
      · refine vm_r_iload_n rfl rfl rfl ?_
        refine vm_r_iconst (kI := nI 2) rfl ?_
        first | refine vm_r_icmp_neN rfl (by omega) (by omega) (fun o => ?_) (fun o => ?_) | refine vm_r_icmp_ne rfl (fun o => ?_) (fun o => ?_)
        · refine vm_r_iconst (kI := nI 1) rfl ?_
          exact fin 1 (by rw [if_neg (by omega), if_neg (by omega)])
        · refine vm_r_iload rfl rfl ?_
          refine vm_r_iconst (kI := nI 4) rfl ?_
          first | refine vm_r_icmp_neN rfl (by omega) (by omega) (fun o2 => ?_) (fun o2 => ?_) | refine vm_r_icmp_ne rfl (fun o2 => ?_) (fun o2 => ?_)
          · refine vm_r_iconst (kI := nI 1) rfl ?_
            exact fin 1 (by rw [if_neg (by omega), if_neg (by omega)])
          · refine vm_r_iconst (kI := nI 2) rfl ?_
            refine vm_r_goto rfl ?_
            exact fin 2 (by rw [if_pos (by omega)])
      · refine vm_r_iload rfl rfl ?_
        first | refine vm_r_if_neB rfl (fun o => ?_) (fun o => ?_) | refine vm_r_if_neN rfl (by omega) (fun o => ?_) (fun o => ?_) | refine vm_r_if_ne rfl (fun o => ?_) (fun o => ?_)
        · refine vm_r_iload_n rfl rfl rfl ?_
          refine vm_r_iconst (kI := nI 2) rfl ?_
          first | refine vm_r_icmp_neN rfl (by omega) (by omega) (fun _ => ?_) (fun hn => absurd hn (by omega)) | refine vm_r_icmp_ne rfl (fun _ => ?_) (fun hn => absurd hn (by omega))
          refine vm_r_iconst (kI := nI 1) rfl ?_
          exact fin 1 (by rw [if_neg (by omega), if_neg (by omega)])
        · refine vm_r_iconst (kI := nI 0) rfl ?_
          refine vm_r_goto rfl ?_
          exact fin 0 (by rw [if_neg (by omega), if_pos (by omega)])
    · refine vm_r_iconst (kI := nI 2) rfl ?_
      refine vm_r_goto rfl ?_
      exact fin 2 (by rw [if_pos (by omega)])
theorem c_M_sayingOf {p s : Nat} (h : vMh μ.1 m) (hc : ∀ k, k < 5 → μ.2.1 (m + 6) (25 + 5 * p + k) = nI (vd s k)) (hp : p < 6) : vm_Ex E 1 n_M_sayingOf [.ref m, .int (nI p)] 0 0 μ (vm_PV (fun μ' => vf μ μ' (m + 12) (m + 12) ∧ vSay μ' m s)) := by
  refine vm_start (D := 0) (by decide) rfl (Nat.le_of_ble_eq_true rfl) (k := k_M_sayingOf) rfl (L := [.ref m, .int (nI p), .retAddr 0]) rfl ?_
  refine vm_r_iconst (kI := nI 0) rfl ?_
  refine vm_r_istore_n2 rfl rfl rfl ?_
  refine vm_up (P := fun i => ∀ μ' : vm_M, vf μ μ' (m + 12) (m + 12) → (∀ k, k < i → μ'.2.1 (m + 12) k = nI (vd s k)) → vm_W E (vm_Ex E 0) k_M_sayingOf _ (2, [.ref m, .int (nI p), .int (nI i)], [], 0, 0, μ')) (N := 5) ?_ ?_ 0 (by omega) μ vf.rf (fun k hk => by omega)
  · intro μ' f hk
    refine vm_r_iload_n rfl rfl rfl ?_
    refine vm_r_iconst (kI := nI 5) rfl ?_
    first | refine vm_r_icmp_geN rfl (by omega) (by omega) (fun _ => ?_) (fun hn => absurd hn (by omega)) | refine vm_r_icmp_ge rfl (fun _ => ?_) (fun hn => absurd hn (by omega))
    refine vm_r_vret rfl (⟨rfl, f, hk⟩)
  · intro i hi ih μ' f hk
    have h' : vMh μ'.1 m := by rw [f.1]; exact h
    refine vm_r_iload_n rfl rfl rfl ?_
    refine vm_r_iconst (kI := nI 5) rfl ?_
    first | refine vm_r_icmp_geN rfl (by omega) (by omega) (fun hn => absurd hn (by omega)) (fun _ => ?_) | refine vm_r_icmp_ge rfl (fun hn => absurd hn (by omega)) (fun _ => ?_)
    refine vm_r_aload_n rfl rfl rfl ?_
    refine vm_r_getR rfl (h'.r12) ?_
    refine vm_r_iload_n rfl rfl rfl ?_
    refine vm_r_aload_n rfl rfl rfl ?_
    refine vm_r_getR rfl (h'.r6) ?_
    refine vm_r_bipush (kI := nI 25) rfl ?_
    refine vm_r_iconst (kI := nI 5) rfl ?_
    refine vm_r_iload_n rfl rfl rfl ?_
    first | refine vm_r_imulN rfl ?_ | refine vm_r_imul rfl ?_
    first | refine vm_r_iaddN rfl ?_ | refine vm_r_iadd rfl ?_
    refine vm_r_iload_n rfl rfl rfl ?_
    first | refine vm_r_iaddN rfl ?_ | refine vm_r_iadd rfl ?_
    refine vm_r_iaload rfl (h'.s6) (by omega) (by omega) (rfl) ?_
    refine vm_r_iastore rfl (h'.s12) (by omega) (by omega) ?_
    first | refine vm_r_iinc2N (y := 1) rfl rfl ?_ | refine vm_r_iinc2 rfl rfl ?_
    refine vm_r_goto rfl ?_
    refine ih _ (f.tr (vf.mI (Nat.le_refl _) (Nat.le_refl _))) (fun k hk2 => ?_)
    by_cases e : k = i
    · subst e
      rw [rI_eq, f.2.2 _ (by omega)]
      exact hc k hi
    · rw [rI_nk e]
      exact hk k (by omega)
theorem c_M_farOf {p g : Nat} (h : vSd μ m T) (hp : p < tP T) (hg : g < tG T) : vm_Ex E 3 n_M_farOf [.ref m, .int (nI p), .int (nI g)] 0 0 μ (vm_PX (fun v μ' => v = nI (vdn (tK T g) (tB T p) (tA T g) 5) ∧ vf μ μ' (m + 12) (m + 12))) := by
  obtain ⟨h0, h1, h2, h3⟩ := h
  have hG := h3.1
  have hP := h3.2.1
  have hK := h3.K4 hg
  refine vm_start (D := 2) (by decide) rfl (Nat.le_of_ble_eq_true rfl) (k := k_M_farOf) rfl (L := [.ref m, .int (nI p), .int (nI g)]) rfl ?_
  refine vm_r_aload_n rfl rfl rfl ?_
  refine vm_r_iload_n rfl rfl rfl ?_
  refine vm_r_cv2V rfl (by decide) (h0.ob) (Nat.le_of_ble_eq_true rfl) (vm_Ex_le (by first | exact Nat.le_of_ble_eq_true rfl | omega) (c_M_sayingOf h0 (fun k hk => h2.2.1 p k hp hk) (by omega))) (fun μ1 q1 => ?_)
  obtain ⟨f1, s1⟩ := q1
  have h0' : vMh μ1.1 m := by rw [f1.1]; exact h0
  have e2 : μ1.2.1 (m + 2) (2 + g) = nI (tK T g) := by rw [f1.2.2 _ (by omega)]; exact (h1.2.2 g hg).1
  refine vm_r_aload_n rfl rfl rfl ?_
  refine vm_r_iload_n rfl rfl rfl ?_
  refine vm_r_aload_n rfl rfl rfl ?_
  refine vm_r_getR rfl (h0'.r2) ?_
  refine vm_r_iconst (kI := nI 2) rfl ?_
  refine vm_r_iload_n rfl rfl rfl ?_
  first | refine vm_r_iaddN rfl ?_ | refine vm_r_iadd rfl ?_
  refine vm_r_iaload rfl (h0'.s2) (by omega) (by omega) (e2) ?_
  refine vm_r_cv3I rfl (by decide) (h0'.ob) (Nat.le_of_ble_eq_true rfl) (vm_Ex_le (by first | exact Nat.le_of_ble_eq_true rfl | omega) (c_M_farBy h0' s1 (fun k hk => (congrFun (f1.2.2 _ (by omega)) _).trans (h2.1 g k hg hk)) (by omega) hK)) ?_
  refine vm_r_ret rfl (fun h => by cases h) (⟨_, rfl, rfl, f1⟩)
theorem vdn_lt {T : vt_T} {p g : Nat} (h : vt_ok T) (hp : p < tP T) (hg : g < tG T) (kd : Nat) : vdn kd (tB T p) (tA T g) 5 ≤ 50 := vdn_le kd (h.B hp) (h.A hg) 5 (Nat.le_refl _)
theorem c_M_letsIn {p g : Nat} (h : vSd μ m T) (hp : p < tP T) (hg : g < tG T) : vm_Ex E 4 n_M_letsIn [.ref m, .int (nI p), .int (nI g)] 0 0 μ (vm_PX (fun v μ' => v = vm_bi (vadm T (tB T p) g) ∧ vf μ μ' (m + 12) (m + 12))) := by
  have h3 := h.2.2.2
  have hG := h3.1
  have hE := h3.E40 hg
  have hv := vdn_lt h3 hp hg (tK T g)
  refine vm_start (D := 3) (by decide) rfl (Nat.le_of_ble_eq_true rfl) (k := k_M_letsIn) rfl (L := [.ref m, .int (nI p), .int (nI g)]) rfl ?_
  refine vm_r_aload_n rfl rfl rfl ?_
  refine vm_r_iload_n rfl rfl rfl ?_
  refine vm_r_iload_n rfl rfl rfl ?_
  refine vm_r_cv3X rfl (by decide) (h.1.ob) (Nat.le_of_ble_eq_true rfl) (vm_Ex_le (by first | exact Nat.le_of_ble_eq_true rfl | omega) (c_M_farOf h hp hg)) (fun v1 μ1 q1 => ?_)
  obtain ⟨rfl, f1⟩ := q1
  have h0' : vMh μ1.1 m := by rw [f1.1]; exact h.1
  have e2 : μ1.2.1 (m + 2) (7 + g) = nI (tE T g) := by rw [f1.2.2 _ (by omega)]; exact (h.2.1.2.2 g hg).2
  refine vm_r_aload_n rfl rfl rfl ?_
  refine vm_r_getR rfl (h0'.r2) ?_
  refine vm_r_bipush (kI := nI 7) rfl ?_
  refine vm_r_iload_n rfl rfl rfl ?_
  first | refine vm_r_iaddN rfl ?_ | refine vm_r_iadd rfl ?_
  refine vm_r_iaload rfl (h0'.s2) (by omega) (by omega) (e2) ?_
  first | refine vm_r_icmp_gtN rfl (by omega) (by omega) (fun e => ?_) (fun e => ?_) | refine vm_r_icmp_gt rfl (fun e => ?_) (fun e => ?_)
  · refine vm_r_iconst (kI := nI 0) rfl ?_
    refine vm_r_ret rfl (fun _ => by first | exact vm_bi_01 _ | decide) (⟨_, rfl, (vm_bi_f (by unfold vadm; omega)).symm, f1⟩)
  · refine vm_r_iconst (kI := nI 1) rfl ?_
    refine vm_r_goto rfl ?_
    refine vm_r_ret rfl (fun _ => by first | exact vm_bi_01 _ | decide) (⟨_, rfl, (vm_bi_t e).symm, f1⟩)
end MOD2
