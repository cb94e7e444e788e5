/-! Sayings as the class has them: three bits a place. -/
theorem vm_PI.mk {v z : Int32} {μ : vm_M} (h : v = z) : vm_PI z μ (some (.int v)) μ := by
  subst h
  exact ⟨rfl, rfl⟩
theorem vm_PI.of {v z : Int32} {μ : vm_M} (h : z = v) : vm_PI z μ (some (.int v)) μ := vm_PI.mk h.symm
theorem vm_PI.cast {z z' : Int32} {μ : vm_M} {E : vm_V} {D M mc ms : Nat} {as : List Value} (h : vm_Ex E D M as mc ms μ (vm_PI z μ)) (e : z = z') : vm_Ex E D M as mc ms μ (vm_PI z' μ) := e ▸ h
/-- the sound at a place -/
def vd (c k : Nat) : Nat := c / 8 ^ k % 8
/-- with another sound -/
def vw (c k s : Nat) : Nat := c - c / 8 ^ k % 8 * 8 ^ k + s * 8 ^ k
/-- how far apart -/
def vab (x y : Nat) : Nat := (x - y) + (y - x)
def vstep (x y : Nat) : Nat := if x < y then x + 1 else if y < x then x - 1 else x
def vok (c : Nat) : Prop := c < 32768 ∧ ∀ k, k < 5 → vd c k < 6
theorem vd_lt (c k : Nat) : vd c k < 8 := Nat.mod_lt _ (by decide)
theorem v_pow (k : Nat) : 2 ^ (3 * k) = 8 ^ k := Nat.pow_mul 2 3 k
theorem v_and7 (x : Nat) : x &&& 7 = x % 8 := Nat.and_two_pow_sub_one_eq_mod x 3
theorem v_and1 (x : Nat) : x &&& 1 = x % 2 := Nat.and_two_pow_sub_one_eq_mod x 1
theorem v_p8 : ∀ k, k < 5 → 8 ^ k < 32768 ∧ 7 * 2 ^ (3 * k) < 32768 := by decide +kernel
theorem v_5 {P : Nat → Prop} (h0 : P 0) (h1 : P 1) (h2 : P 2) (h3 : P 3) (h4 : P 4) : ∀ k, k < 5 → P k := by
  intro k hk
  rcases (by omega : k = 0 ∨ k = 1 ∨ k = 2 ∨ k = 3 ∨ k = 4) with rfl | rfl | rfl | rfl | rfl <;> assumption
theorem v_all5 {P : Nat → Prop} (h : ∀ k, k < 5 → P k) : P 0 ∧ P 1 ∧ P 2 ∧ P 3 ∧ P 4 := ⟨h 0 (by decide), h 1 (by decide), h 2 (by decide), h 3 (by decide), h 4 (by decide)⟩
theorem v_or (c k s : Nat) (hs : s < 8) : (c - c / 8 ^ k % 8 * 8 ^ k) ||| (s * 8 ^ k) = vw c k s := by
  have hp : 0 < 8 ^ k := Nat.pow_pos (by decide)
  have e1 := Nat.div_add_mod c (8 ^ k)
  have e2 := Nat.div_add_mod (c / 8 ^ k) 8
  have hlo : c % 8 ^ k < 8 ^ k := Nat.mod_lt _ hp
  unfold vw
  generalize hM : 8 ^ k = m at *
  generalize c % m = lo at *
  generalize c / m / 8 = hi at *
  generalize c / m % 8 = mid at *
  have hx : c - mid * m = m * 8 * hi + lo := by
    have : m * (c / m) = m * 8 * hi + m * mid := by rw [← e2, Nat.mul_add, Nat.mul_assoc]
    have h3 : mid * m = m * mid := Nat.mul_comm _ _
    omega
  rw [hx]
  have hm8 : m * 8 = 2 ^ (3 * k + 3) := by rw [← hM, Nat.pow_add, v_pow]
  have hm : m = 2 ^ (3 * k) := by rw [← hM, v_pow]
  have hl2 : lo < 2 ^ (3 * k) := by rw [← hm]; exact hlo
  have hsm : s * m + lo < m * 8 := by
    have : s * m ≤ 7 * m := Nat.mul_le_mul_right m (by omega)
    omega
  have a1 : m * 8 * hi + lo = m * 8 * hi ||| lo := by
    rw [hm8]
    exact Nat.two_pow_add_eq_or_of_lt (by omega) hi
  have a2 : s * m + lo = s * m ||| lo := by
    rw [Nat.mul_comm s m, hm]
    exact Nat.two_pow_add_eq_or_of_lt hl2 s
  have a3 : m * 8 * hi + (s * m + lo) = m * 8 * hi ||| (s * m + lo) := by
    rw [hm8]
    exact Nat.two_pow_add_eq_or_of_lt (by omega) hi
  have : m * 8 * hi + lo + s * m = m * 8 * hi + (s * m + lo) := by omega
  rw [this, a3, a2, a1, Nat.or_assoc, Nat.or_comm lo]
theorem v_with {c k s : Nat} (hc : c < 32768) (hk : k < 5) (hs : s < 8) : (nI c &&& (nI (7 * 2 ^ (3 * k)) ^^^ (-1))) ||| nI (s * 2 ^ (3 * k)) = nI (vw c k s) := by
  have h1 : (-1 : Int32) = nI 4294967295 := by decide
  have h2 := v_mask (c / 256) (by omega) (c % 256) (Nat.mod_lt _ (by decide)) k hk
  rw [Nat.div_add_mod] at h2
  rw [h1, fb_xorI, fa_and, fa_or, v_pow, h2, v_or c k s hs]
theorem v_sound {c k : Nat} : nI (c / 2 ^ (3 * k) &&& 7) = nI (vd c k) := by
  rw [v_and7, v_pow]
  rfl
theorem vw_eq {c k s : Nat} (hc : c < 32768) (hk : k < 5) (hs : s < 8) : vw c k s < 32768 ∧ ∀ j, j < 5 → vd (vw c k s) j = if j = k then s else vd c j := by
  unfold vw vd
  rcases (by omega : k = 0 ∨ k = 1 ∨ k = 2 ∨ k = 3 ∨ k = 4) with rfl | rfl | rfl | rfl | rfl <;>
    refine ⟨by simp only [Nat.reducePow]; omega, v_5 ?_ ?_ ?_ ?_ ?_⟩ <;> simp only [Nat.reducePow, if_true, Nat.reduceEqDiff, if_false, reduceCtorEq] <;> omega
theorem vw_ok {c k s : Nat} (hc : vok c) (hk : k < 5) (hs : s < 6) : vok (vw c k s) := by
  obtain ⟨h1, h2⟩ := vw_eq (k := k) (s := s) hc.1 hk (by omega)
  refine ⟨h1, fun j hj => ?_⟩
  rw [h2 j hj]
  split
  · exact hs
  · exact hc.2 j hj
theorem v_ext {c c' : Nat} (h1 : c < 32768) (h2 : c' < 32768) (h : ∀ k, k < 5 → vd c k = vd c' k) : c = c' := by
  obtain ⟨a0, a1, a2, a3, a4⟩ := v_all5 h
  unfold vd at a0 a1 a2 a3 a4
  simp only [Nat.reducePow] at a0 a1 a2 a3 a4
  omega
theorem v_gap {x y : Nat} (hx : x < 2 ^ 30) (hy : y < 2 ^ 30) : (if 0 ≤ nI x - nI y then nI x - nI y else 0 - (nI x - nI y)) = nI (vab x y) := by
  unfold vab
  by_cases h : y ≤ x
  · rw [pk_sub h, if_pos (nI_pos' (by omega)), show x - y + (y - x) = x - y by omega]
  · have h2 : nI x - nI y < 0 := pk_sneg hy (by omega)
    rw [if_neg (Int32.not_le.mpr h2)]
    have : 0 - (nI x - nI y) = nI y - nI x := by
      rw [show (0 : Int32) - (nI x - nI y) = -(nI x - nI y) from Int32.zero_sub _, Int32.neg_sub]
    rw [this, pk_sub (by omega), show x - y + (y - x) = y - x by omega]
/-- a place or NONE -/
def vo (k : Nat) : Int32 := if k < 5 then nI k else -4
theorem vo_lt {k : Nat} (h : k < 5) : vo k = nI k := if_pos h
theorem vo_ge {k : Nat} (h : ¬ k < 5) : vo k = -4 := if_neg h
theorem vo_none {k : Nat} : vo k = -4 ↔ ¬ k < 5 := by
  constructor
  · intro h hk
    rw [vo_lt hk] at h
    exact absurd h (by
      have : ∀ k, k < 5 → ¬ nI k = -4 := by decide +kernel
      exact this k hk)
  · exact vo_ge
/-- the first place where two differ; 5: nowhere -/
def vfd (f g : Nat → Nat) : Nat := fa_first (fun j => decide (f j ≠ g j)) 5
/-- the first place where they differ most; 5: nowhere -/
def vwd (f : Nat → Nat) : Nat → Nat × Nat
  | 0 => (5, 0)
  | n + 1 => if (vwd f n).2 < f n then (n, f n) else vwd f n
/-- nearer to the goal at a place; 5: as it was -/
def vnr (c c' k : Nat) : Nat := if k < 5 then vw c k (vstep (vd c k) (vd c' k)) else c
theorem vwd_s (f : Nat → Nat) (n : Nat) : vwd f (n + 1) = if (vwd f n).2 < f n then (n, f n) else vwd f n := rfl
def vms (c m : Nat) : Nat → Nat
  | 0 => c
  | n + 1 => if m / 2 ^ n % 2 = 1 then vw (vms c m n) n ((vd c n + 1) % 6) else vms c m n
theorem vms_s (c m n : Nat) : vms c m (n + 1) = if m / 2 ^ n % 2 = 1 then vw (vms c m n) n ((vd c n + 1) % 6) else vms c m n := rfl
theorem vstep_lt {x y n : Nat} (hx : x < n) (hy : y < n) : vstep x y < n := by
  unfold vstep
  split
  · omega
  · split <;> omega
theorem vms_ok {c m : Nat} (hc : vok c) : ∀ n, n ≤ 5 → vok (vms c m n)
  | 0, _ => hc
  | n + 1, h => by
    unfold vms
    split
    · exact vw_ok (vms_ok hc n (by omega)) (by omega) (Nat.mod_lt _ (by decide))
    · exact vms_ok hc n (by omega)
theorem vms_d {c m : Nat} (hc : vok c) : ∀ n, n ≤ 5 → ∀ j, j < 5 → vd (vms c m n) j = if j < n ∧ m / 2 ^ j % 2 = 1 then (vd c j + 1) % 6 else vd c j
  | 0, _, j, _ => by simp [vms]
  | n + 1, h, j, hj => by
    have ih := vms_d (m := m) hc n (by omega) j hj
    unfold vms
    split
    · rename_i hm
      rw [(vw_eq (vms_ok hc n (by omega)).1 (by omega) (by have := Nat.mod_lt (vd c n + 1) (show 0 < 6 by decide); omega)).2 j hj]
      by_cases e : j = n
      · subst e
        rw [if_pos rfl, if_pos ⟨by omega, hm⟩]
      · rw [if_neg e, ih]
        by_cases q : j < n ∧ m / 2 ^ j % 2 = 1
        · rw [if_pos q, if_pos ⟨by omega, q.2⟩]
        · rw [if_neg q, if_neg (fun z => q ⟨by omega, z.2⟩)]
    · rename_i hm
      rw [ih]
      by_cases q : j < n ∧ m / 2 ^ j % 2 = 1
      · rw [if_pos q, if_pos ⟨by omega, q.2⟩]
      · rw [if_neg q, if_neg (fun z => q ⟨by
          rcases Nat.lt_or_ge j n with y | y
          · exact y
          · obtain rfl : j = n := by omega
            exact absurd z.2 hm, z.2⟩)]
theorem vnr_ok {c c' k : Nat} (hc : vok c) (hc' : vok c') : vok (vnr c c' k) := by
  unfold vnr
  split
  · rename_i h
    exact vw_ok hc h (vstep_lt (hc.2 k h) (hc'.2 k h))
  · exact hc
theorem vnr_d {c c' k j : Nat} (hc : vok c) (hc' : vok c') (hj : j < 5) : vd (vnr c c' k) j = if j = k then vstep (vd c k) (vd c' k) else vd c j := by
  unfold vnr
  split
  · rename_i h
    exact (vw_eq hc.1 h (Nat.lt_of_lt_of_le (vstep_lt (hc.2 k h) (hc'.2 k h)) (by decide))).2 j hj
  · rename_i h
    rw [if_neg (by omega)]
section SAY
variable {E : vm_V} {μ : vm_M}
theorem c_J_compare {x y : Nat} (hx : x < 2 ^ 30) (hy : y < 2 ^ 30) : vm_Ex E 1 n_J_compare [.int (nI x), .int (nI y)] 0 0 μ (vm_PI (if x < y then -1 else if x = y then 0 else 1) μ) := by
  refine vm_start (D := 0) (by decide) rfl (Nat.le_of_ble_eq_true rfl) (k := k_J_compare) rfl (L := [.int (nI x), .int (nI y)]) rfl ?_
  refine vm_r_iload_n rfl rfl rfl ?_
  refine vm_r_iload_n rfl rfl rfl ?_
  first | refine vm_r_icmp_geN rfl (by omega) (by omega) (fun h => ?_) (fun h => ?_) | refine vm_r_icmp_ge rfl (fun h => ?_) (fun h => ?_)
  · refine vm_r_iload_n rfl rfl rfl ?_
    refine vm_r_iload_n rfl rfl rfl ?_
    first | refine vm_r_icmp_neN rfl (by omega) (by omega) (fun h => ?_) (fun h => ?_) | refine vm_r_icmp_ne rfl (fun h => ?_) (fun h => ?_)
    · refine vm_r_iconst (kI := nI 1) rfl ?_
      exact vm_r_ret rfl (fun h => by cases h) (vm_PI.of (by rw [if_neg (by omega), if_neg (by omega)]; rfl))
    · refine vm_r_iconst (kI := nI 0) rfl ?_
      refine vm_r_goto rfl ?_
      exact vm_r_ret rfl (fun h => by cases h) (vm_PI.of (by rw [if_neg (by omega), if_pos (by omega)]; rfl))
  · refine vm_r_iconst rfl ?_
    refine vm_r_goto rfl ?_
    exact vm_r_ret rfl (fun h => by cases h) (vm_PI.of (by rw [if_pos (by omega)]))
theorem c_SY_soundAt {c k : Nat} (hc : c < 2 ^ 31) (hk : k < 10) : vm_Ex E 1 n_SY_soundAt [.int (nI c), .int (nI k)] 0 0 μ (vm_PI (nI (vd c k)) μ) := by
  refine vm_start (D := 0) (by decide) rfl (Nat.le_of_ble_eq_true rfl) (k := k_SY_soundAt) rfl (L := [.int (nI c), .int (nI k)]) rfl ?_
  refine vm_r_iload_n rfl rfl rfl ?_
  refine vm_r_iconst (kI := nI 3) rfl ?_
  refine vm_r_iload_n rfl rfl rfl ?_
  first | refine vm_r_imulN rfl ?_ | refine vm_r_imul rfl ?_
  refine vm_r_ishrN rfl (by omega) (by omega) ?_
  refine vm_r_bipush (kI := nI 7) rfl ?_
  first | refine vm_r_iandN rfl ?_ | refine vm_r_iand rfl ?_
  exact vm_r_ret rfl (fun h => by cases h) (vm_PI.mk v_sound)
theorem c_SY_withSound {c k s : Nat} (hc : c < 32768) (hk : k < 5) (hs : s < 8) : vm_Ex E 1 n_SY_withSound [.int (nI c), .int (nI k), .int (nI s)] 0 0 μ (vm_PI (nI (vw c k s)) μ) := by
  have h2 := (v_p8 k hk).2
  have h3 : s * 2 ^ (3 * k) ≤ 7 * 2 ^ (3 * k) := Nat.mul_le_mul_right _ (by omega)
  refine vm_start (D := 0) (by decide) rfl (Nat.le_of_ble_eq_true rfl) (k := k_SY_withSound) rfl (L := [.int (nI c), .int (nI k), .int (nI s)]) rfl ?_
  refine vm_r_iload_n rfl rfl rfl ?_
  refine vm_r_bipush (kI := nI 7) rfl ?_
  refine vm_r_iconst (kI := nI 3) rfl ?_
  refine vm_r_iload_n rfl rfl rfl ?_
  first | refine vm_r_imulN rfl ?_ | refine vm_r_imul rfl ?_
  refine vm_r_ishlN rfl (by omega) (by omega) ?_
  refine vm_r_iconst rfl ?_
  refine vm_r_ixor rfl ?_
  refine vm_r_iand rfl ?_
  refine vm_r_iload_n rfl rfl rfl ?_
  refine vm_r_iconst (kI := nI 3) rfl ?_
  refine vm_r_iload_n rfl rfl rfl ?_
  first | refine vm_r_imulN rfl ?_ | refine vm_r_imul rfl ?_
  refine vm_r_ishlN rfl (by omega) (by omega) ?_
  refine vm_r_ior rfl ?_
  exact vm_r_ret rfl (fun h => by cases h) (vm_PI.mk (v_with hc hk hs))
theorem c_SY_gapAt {c c' k : Nat} (hc : c < 2 ^ 31) (hc' : c' < 2 ^ 31) (hk : k < 10) : vm_Ex E 2 n_SY_gapAt [.int (nI c), .int (nI c'), .int (nI k)] 0 0 μ (vm_PI (nI (vab (vd c k) (vd c' k))) μ) := by
  have h1 := vd_lt c k
  have h2 := vd_lt c' k
  refine vm_start (D := 1) (by decide) rfl (Nat.le_of_ble_eq_true rfl) (k := k_SY_gapAt) rfl (L := [.int (nI c), .int (nI c'), .int (nI k)]) rfl ?_
  refine vm_r_iload_n rfl rfl rfl ?_
  refine vm_r_iload_n rfl rfl rfl ?_
  refine vm_r_cs2I rfl (by decide) (Nat.le_of_ble_eq_true rfl) (vm_Ex_le (Nat.le_of_ble_eq_true rfl) (c_SY_soundAt hc hk)) ?_
  refine vm_r_iload_n rfl rfl rfl ?_
  refine vm_r_iload_n rfl rfl rfl ?_
  refine vm_r_cs2I rfl (by decide) (Nat.le_of_ble_eq_true rfl) (vm_Ex_le (Nat.le_of_ble_eq_true rfl) (c_SY_soundAt hc' hk)) ?_
  refine vm_r_isub rfl ?_
  refine vm_r_abs rfl (Nat.le_of_ble_eq_true rfl) ?_
  exact vm_r_ret rfl (fun h => by cases h) (vm_PI.mk (v_gap (by omega) (by omega)))
theorem vab_0 {x y : Nat} : vab x y = 0 ↔ x = y := by
  unfold vab
  omega
theorem vab_lt {x y n : Nat} (hx : x < n) (hy : y < n) : vab x y < n := by
  unfold vab
  omega
theorem fa_first_eq {p : Nat → Bool} {n i : Nat} (hi : i ≤ n) (h1 : ∀ j, j < i → p j = false) (h2 : i < n → p i = true) : fa_first p n = i := by
  rcases Nat.lt_trichotomy (fa_first p n) i with h | h | h
  · have := fa_first_yes p n (by omega)
    rw [h1 _ h] at this
    cases this
  · exact h
  · have h3 := fa_first_le p n
    have := fa_first_no p n i h
    rw [h2 (by omega)] at this
    cases this
theorem c_SY_firstDifference {c c' : Nat} (hc : c < 2 ^ 31) (hc' : c' < 2 ^ 31) : vm_Ex E 3 n_SY_firstDifference [.int (nI c), .int (nI c')] 0 0 μ (vm_PI (vo (vfd (vd c) (vd c'))) μ) := by
  refine vm_start (D := 2) (by decide) rfl (Nat.le_of_ble_eq_true rfl) (k := k_SY_firstDifference) rfl (L := [.int (nI c), .int (nI c'), .retAddr 0]) rfl ?_
  refine vm_r_iconst (kI := nI 0) rfl ?_
  refine vm_r_istore_n2 rfl rfl rfl ?_
  refine vm_up (P := fun i => (∀ j, j < i → vd c j = vd c' j) → vm_W E (vm_Ex E 2) k_SY_firstDifference _ (2, [.int (nI c), .int (nI c'), .int (nI i)], [], 0, 0, μ)) (N := 5) ?_ ?_ 0 (by decide) (fun j hj => by omega)
  · intro hj
    refine vm_r_iload_n rfl rfl rfl ?_
    refine vm_r_iconst (kI := nI 5) rfl ?_
    first | refine vm_r_icmp_geN rfl (by omega) (by omega) (fun _ => ?_) (fun hn => absurd hn (by omega)) | refine vm_r_icmp_ge rfl (fun _ => ?_) (fun hn => absurd hn (by omega))
    refine vm_r_bipush rfl ?_
    exact vm_r_ret rfl (fun h => by cases h) (vm_PI.of (by rw [show vfd (vd c) (vd c') = 5 from fa_first_eq (Nat.le_refl _) (fun j h => decide_eq_false (fun z => z (hj j h))) (fun h => by omega)]; rfl))
  · intro i hi ih hj
    have h1 := vab_lt (vd_lt c i) (vd_lt c' i)
    refine vm_r_iload_n rfl rfl rfl ?_
    refine vm_r_iconst (kI := nI 5) rfl ?_
    first | refine vm_r_icmp_geN rfl (by omega) (by omega) (fun hn => absurd hn (by omega)) (fun _ => ?_) | refine vm_r_icmp_ge rfl (fun hn => absurd hn (by omega)) (fun _ => ?_)
    refine vm_r_iload_n rfl rfl rfl ?_
    refine vm_r_iload_n rfl rfl rfl ?_
    refine vm_r_iload_n rfl rfl rfl ?_
    refine vm_r_cs3I rfl (by decide) (Nat.le_of_ble_eq_true rfl) (vm_Ex_le (Nat.le_of_ble_eq_true rfl) (c_SY_gapAt hc hc' (by omega))) ?_
    first | refine vm_r_if_leN rfl (by omega) (fun e => ?_) (fun e => ?_) | refine vm_r_if_le rfl (fun e => ?_) (fun e => ?_)
    · first | refine vm_r_iinc2N (y := 1) rfl rfl ?_ | refine vm_r_iinc2 rfl rfl ?_
      refine vm_r_goto rfl ?_
      refine ih (fun j h => ?_)
      rcases Nat.lt_or_ge j i with z | z
      · exact hj j z
      · obtain rfl : j = i := by omega
        exact vab_0.mp e
    · refine vm_r_iload_n rfl rfl rfl ?_
      exact vm_r_ret rfl (fun h => by cases h) (vm_PI.of (by rw [show vfd (vd c) (vd c') = i from fa_first_eq (by omega) (fun j h => decide_eq_false (fun z => z (hj j h))) (fun _ => decide_eq_true (fun z => by rw [vab_0.mpr z] at e; omega)), vo_lt hi]))
theorem vwd_gap (f : Nat → Nat) (m : Nat) (hf : ∀ k, k < 5 → f k ≤ m) : ∀ n, n ≤ 5 → (vwd f n).2 ≤ m
  | 0, _ => Nat.zero_le _
  | n + 1, h => by
    unfold vwd
    split
    · exact hf n (by omega)
    · exact vwd_gap f m hf n (by omega)
theorem c_SY_widestDifference {c c' : Nat} (hc : c < 2 ^ 31) (hc' : c' < 2 ^ 31) : vm_Ex E 3 n_SY_widestDifference [.int (nI c), .int (nI c')] 0 0 μ (vm_PI (vo (vwd (fun k => vab (vd c k) (vd c' k)) 5).1) μ) := by
  refine vm_start (D := 2) (by decide) rfl (Nat.le_of_ble_eq_true rfl) (k := k_SY_widestDifference) rfl (L := [.int (nI c), .int (nI c'), .retAddr 0, .retAddr 0, .retAddr 0]) rfl ?_
  refine vm_r_bipush rfl ?_
  refine vm_r_istore_n2 rfl rfl rfl ?_
  refine vm_r_iconst (kI := nI 0) rfl ?_
  refine vm_r_istore_n3 rfl rfl rfl ?_
  refine vm_r_iconst (kI := nI 0) rfl ?_
  refine vm_r_istore4 rfl rfl ?_
  refine vm_up (P := fun i => vm_W E (vm_Ex E 2) k_SY_widestDifference _ (8, [.int (nI c), .int (nI c'), .int (vo (vwd (fun k => vab (vd c k) (vd c' k)) i).1), .int (nI (vwd (fun k => vab (vd c k) (vd c' k)) i).2), .int (nI i)], [], 0, 0, μ)) (N := 5) ?_ ?_ 0 (by decide)
  · refine vm_r_iload rfl rfl ?_
    refine vm_r_iconst (kI := nI 5) rfl ?_
    first | refine vm_r_icmp_geN rfl (by omega) (by omega) (fun _ => ?_) (fun hn => absurd hn (by omega)) | refine vm_r_icmp_ge rfl (fun _ => ?_) (fun hn => absurd hn (by omega))
    refine vm_r_iload_n rfl rfl rfl ?_
    exact vm_r_ret rfl (fun h => by cases h) (vm_PI.of rfl)
  · intro i hi ih
    have h1 := vab_lt (vd_lt c i) (vd_lt c' i)
    have h2 := vwd_gap (fun k => vab (vd c k) (vd c' k)) 7 (fun k _ => Nat.le_of_lt_succ (vab_lt (vd_lt c k) (vd_lt c' k))) i (by omega)
    rw [vwd_s _ i] at ih
    refine vm_r_iload rfl rfl ?_
    refine vm_r_iconst (kI := nI 5) rfl ?_
    first | refine vm_r_icmp_geN rfl (by omega) (by omega) (fun hn => absurd hn (by omega)) (fun _ => ?_) | refine vm_r_icmp_ge rfl (fun hn => absurd hn (by omega)) (fun _ => ?_)
    refine vm_r_iload_n rfl rfl rfl ?_
    refine vm_r_iload_n rfl rfl rfl ?_
    refine vm_r_iload rfl rfl ?_
    refine vm_r_cs3I rfl (by decide) (Nat.le_of_ble_eq_true rfl) (vm_Ex_le (Nat.le_of_ble_eq_true rfl) (c_SY_gapAt hc hc' (by omega))) ?_
    refine vm_r_iload_n rfl rfl rfl ?_
    first | refine vm_r_icmp_leN rfl (by omega) (by omega) (fun e => ?_) (fun e => ?_) | refine vm_r_icmp_le rfl (fun e => ?_) (fun e => ?_)
    · rw [if_neg (by omega)] at ih
      first | refine vm_r_iinc4N (y := 1) rfl rfl ?_ | refine vm_r_iinc4 rfl rfl ?_
      refine vm_r_goto rfl ?_
      exact ih
    · rw [if_pos (by omega)] at ih
      refine vm_r_iload rfl rfl ?_
      refine vm_r_istore_n2 rfl rfl rfl ?_
      refine vm_r_iload_n rfl rfl rfl ?_
      refine vm_r_iload_n rfl rfl rfl ?_
      refine vm_r_iload rfl rfl ?_
      refine vm_r_cs3I rfl (by decide) (Nat.le_of_ble_eq_true rfl) (vm_Ex_le (Nat.le_of_ble_eq_true rfl) (c_SY_gapAt hc hc' (by omega))) ?_
      refine vm_r_istore_n3 rfl rfl rfl ?_
      first | refine vm_r_iinc4N (y := 1) rfl rfl ?_ | refine vm_r_iinc4 rfl rfl ?_
      refine vm_r_goto rfl ?_
      rw [vo_lt hi] at ih
      exact ih
theorem c_SY_nearer {c c' k : Nat} (hc : vok c) (hc' : vok c') : vm_Ex E 2 n_SY_nearer [.int (nI c), .int (nI c'), .int (vo k)] 0 0 μ (vm_PI (nI (vnr c c' k)) μ) := by
  have hcl := hc.1
  have hcl' := hc'.1
  refine vm_start (D := 1) (by decide) rfl (Nat.le_of_ble_eq_true rfl) (k := k_SY_nearer) rfl (L := [.int (nI c), .int (nI c'), .int (vo k), .retAddr 0]) rfl ?_
  refine vm_r_iload_n rfl rfl rfl ?_
  refine vm_r_bipush rfl ?_
  refine vm_r_icmp_ne rfl (fun h => ?_) (fun h => ?_)
  · have hk : k < 5 := Classical.byContradiction fun z => h (vo_none.mpr z)
    rw [vo_lt hk]
    have h1 := hc.2 k hk
    have h2 := hc'.2 k hk
    refine vm_r_iload_n rfl rfl rfl ?_
    refine vm_r_iload_n rfl rfl rfl ?_
    refine vm_r_cs2I rfl (by decide) (Nat.le_of_ble_eq_true rfl) (vm_Ex_le (Nat.le_of_ble_eq_true rfl) (c_SY_soundAt (by omega) (by omega))) ?_
    refine vm_r_istore_n3 rfl rfl rfl ?_
    refine vm_r_iload_n rfl rfl rfl ?_
    refine vm_r_iload_n rfl rfl rfl ?_
    refine vm_r_iload_n rfl rfl rfl ?_
    refine vm_r_iload_n rfl rfl rfl ?_
    refine vm_r_iload_n rfl rfl rfl ?_
    refine vm_r_cs2I rfl (by decide) (Nat.le_of_ble_eq_true rfl) (vm_Ex_le (Nat.le_of_ble_eq_true rfl) (c_SY_soundAt (by omega) (by omega))) ?_
    refine vm_r_iload_n rfl rfl rfl ?_
    refine vm_r_cs2I rfl (by decide) (Nat.le_of_ble_eq_true rfl) (vm_Ex_le (Nat.le_of_ble_eq_true rfl) (c_J_compare (by omega) (by omega))) ?_
    have e : nI (vd c k) + (if vd c' k < vd c k then -1 else if vd c' k = vd c k then 0 else 1) = nI (vstep (vd c k) (vd c' k)) := by
      unfold vstep
      rcases Nat.lt_trichotomy (vd c k) (vd c' k) with z | z | z
      · rw [if_neg (by omega), if_neg (by omega), if_pos z]
        exact nI_add _ 1
      · rw [if_neg (by omega), if_pos z.symm, if_neg (by omega), if_neg (by omega)]
        exact nI_add _ 0
      · rw [if_pos z, if_neg (by omega), if_pos z]
        obtain ⟨m, hm⟩ : ∃ m, vd c k = m + 1 := ⟨vd c k - 1, by omega⟩
        rw [hm]
        exact pk_m1 m
    refine vm_r_iadd rfl ?_
    refine vm_r_top (e) ?_
    refine vm_r_cs3I rfl (by decide) (Nat.le_of_ble_eq_true rfl) (vm_Ex_le (Nat.le_of_ble_eq_true rfl) (c_SY_withSound hcl hk (Nat.lt_trans (vstep_lt h1 h2) (by decide)))) ?_
    exact vm_r_ret rfl (fun h => by cases h) (vm_PI.of (by unfold vnr; rw [if_pos hk]))
  · have hk : ¬ k < 5 := vo_none.mp (Classical.not_not.mp h)
    refine vm_r_iload_n rfl rfl rfl ?_
    exact vm_r_ret rfl (fun h => by cases h) (vm_PI.of (by unfold vnr; rw [if_neg hk]))
theorem c_SY_misheard {c m : Nat} (hc : vok c) (hm : m < 32) : vm_Ex E 2 n_SY_misheard [.int (nI c), .int (nI m)] 0 0 μ (vm_PI (nI (vms c m 5)) μ) := by
  have hcl := hc.1
  refine vm_start (D := 1) (by decide) rfl (Nat.le_of_ble_eq_true rfl) (k := k_SY_misheard) rfl (L := [.int (nI c), .int (nI m), .retAddr 0, .retAddr 0]) rfl ?_
  refine vm_r_iload_n rfl rfl rfl ?_
  refine vm_r_istore_n2 rfl rfl rfl ?_
  refine vm_r_iconst (kI := nI 0) rfl ?_
  refine vm_r_istore_n3 rfl rfl rfl ?_
  refine vm_up (P := fun i => vm_W E (vm_Ex E 1) k_SY_misheard _ (4, [.int (nI c), .int (nI m), .int (nI (vms c m i)), .int (nI i)], [], 0, 0, μ)) (N := 5) ?_ ?_ 0 (by decide)
  · refine vm_r_iload_n rfl rfl rfl ?_
    refine vm_r_iconst (kI := nI 5) rfl ?_
    first | refine vm_r_icmp_geN rfl (by omega) (by omega) (fun _ => ?_) (fun hn => absurd hn (by omega)) | refine vm_r_icmp_ge rfl (fun _ => ?_) (fun hn => absurd hn (by omega))
    refine vm_r_iload_n rfl rfl rfl ?_
    exact vm_r_ret rfl (fun h => by cases h) (vm_PI.of rfl)
  · intro i hi ih
    have h1 := hc.2 i hi
    have h2 := (vms_ok (m := m) hc i (by omega)).1
    have h3 := Nat.mod_lt (m / 2 ^ i) (show 0 < 2 by decide)
    have h4 := Nat.mod_lt (vd c i + 1) (show 0 < 6 by decide)
    rw [vms_s c m i] at ih
    refine vm_r_iload_n rfl rfl rfl ?_
    refine vm_r_iconst (kI := nI 5) rfl ?_
    first | refine vm_r_icmp_geN rfl (by omega) (by omega) (fun hn => absurd hn (by omega)) (fun _ => ?_) | refine vm_r_icmp_ge rfl (fun hn => absurd hn (by omega)) (fun _ => ?_)
    refine vm_r_iload_n rfl rfl rfl ?_
    refine vm_r_iload_n rfl rfl rfl ?_
    refine vm_r_ishrN rfl (by omega) (by omega) ?_
    refine vm_r_iconst (kI := nI 1) rfl ?_
    first | refine vm_r_iandN rfl ?_ | refine vm_r_iand rfl ?_
    refine vm_r_top ((congrArg nI (v_and1 _))) ?_
    refine vm_r_iconst (kI := nI 1) rfl ?_
    first | refine vm_r_icmp_neN rfl (by omega) (by omega) (fun e => ?_) (fun e => ?_) | refine vm_r_icmp_ne rfl (fun e => ?_) (fun e => ?_)
    · rw [if_neg e] at ih
      first | refine vm_r_iinc3N (y := 1) rfl rfl ?_ | refine vm_r_iinc3 rfl rfl ?_
      refine vm_r_goto rfl ?_
      exact ih
    · rw [if_pos e] at ih
      refine vm_r_iload_n rfl rfl rfl ?_
      refine vm_r_iload_n rfl rfl rfl ?_
      refine vm_r_iload_n rfl rfl rfl ?_
      refine vm_r_iload_n rfl rfl rfl ?_
      refine vm_r_cs2I rfl (by decide) (Nat.le_of_ble_eq_true rfl) (vm_Ex_le (Nat.le_of_ble_eq_true rfl) (c_SY_soundAt (by omega) (by omega))) ?_
      refine vm_r_iconst (kI := nI 1) rfl ?_
      first | refine vm_r_iaddN rfl ?_ | refine vm_r_iadd rfl ?_
      refine vm_r_bipush (kI := nI 6) rfl ?_
      refine vm_r_iremN rfl (by omega) (by omega) (by omega) ?_
      refine vm_r_cs3I rfl (by decide) (Nat.le_of_ble_eq_true rfl) (vm_Ex_le (Nat.le_of_ble_eq_true rfl) (c_SY_withSound h2 hi (by omega))) ?_
      refine vm_r_istore_n2 rfl rfl rfl ?_
      first | refine vm_r_iinc3N (y := 1) rfl rfl ?_ | refine vm_r_iinc3 rfl rfl ?_
      refine vm_r_goto rfl ?_
      exact ih
end SAY
