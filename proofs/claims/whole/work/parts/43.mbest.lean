/-! The model's search over all sayings: the best, the middle. -/
section MBEST
variable {E : vm_V} {μ μ' : vm_M} {m : Nat} {z : vZ} {T : vt_T}
theorem c_M_sayingIs {u : Nat} (h : vMh μ.1 m) (hu : u < 2 ^ 20) : vm_Ex E 1 n_M_sayingIs [.ref m, .int (nI u)] 0 0 μ (vm_PV (fun μ' => vf μ μ' (m + 12) (m + 12) ∧ vSay μ' m (cd6 5 u))) := by
  have e5 := (cd6_d (k := 5) (u := u) (Nat.le_refl 5)).2
  refine vm_start (D := 0) (by decide) rfl (Nat.le_of_ble_eq_true rfl) (k := k_M_sayingIs) rfl (L := [.ref m, .int (nI u), .retAddr 0, .retAddr 0]) rfl ?_
  refine vm_r_iload_n rfl rfl rfl ?_
  refine vm_r_istore_n2 rfl rfl rfl ?_
  refine vm_r_iconst (kI := nI 4) rfl ?_
  refine vm_r_istore_n3 rfl rfl rfl ?_
  refine vm_up (P := fun i => ∀ (μ1 : vm_M) (y : Nat), y = u / 6 ^ i → vf μ μ1 (m + 12) (m + 12) → (∀ k, k < 5 → 5 - i ≤ k → μ1.2.1 (m + 12) k = nI (dg6 5 u k)) → vm_W E (vm_Ex E 0) k_M_sayingIs _ (4, [.ref m, .int (nI u), .int (nI y), .int (v_d4 i)], [], 0, 0, μ1)) (N := 5) ?_ ?_ 0 (by omega) μ u (by rw [Nat.pow_zero, Nat.div_one]) vf.rf (fun k h1 h2 => by omega)
  · intro μ1 y hy f e1
    refine vm_r_iload_n rfl rfl rfl ?_
    refine vm_r_if_lt rfl (fun _ => ?_) (fun hn => absurd hn ((by decide)))
    refine vm_r_vret rfl (⟨rfl, f, fun k hk => by rw [e1 k hk (by omega), e5 k hk, if_pos hk]⟩)
  · intro i hi ih μ1 y hy f e1
    subst hy
    have h1 : vMh μ1.1 m := by rw [f.1]; exact h
    have e4 : v_d4 i = nI (4 - i) := if_neg (by omega)
    have hle : u / 6 ^ i ≤ u := Nat.div_le_self _ _
    have hmo := Nat.mod_lt (u / 6 ^ i) (show 0 < 6 by decide)
    rw [← v_d4_s i hi] at ih
    rw [e4]
    refine vm_r_iload_n rfl rfl rfl ?_
    refine vm_r_if_ltN rfl (by omega) ?_
    refine vm_r_aload_n rfl rfl rfl ?_
    refine vm_r_getR rfl (h1.r12) ?_
    refine vm_r_iload_n rfl rfl rfl ?_
    refine vm_r_iload_n rfl rfl rfl ?_
    refine vm_r_bipush (kI := nI 6) rfl ?_
    refine vm_r_iremN rfl (by omega) (by omega) (by omega) ?_
    refine vm_r_iastore rfl (h1.s12) (by omega) (by omega) ?_
    refine vm_r_iload_n rfl rfl rfl ?_
    refine vm_r_bipush (kI := nI 6) rfl ?_
    refine vm_r_idivN rfl (by omega) (by omega) (by omega) ?_
    refine vm_r_istore_n2 rfl rfl rfl ?_
    refine vm_r_iinc3 rfl rfl ?_
    refine vm_r_goto rfl ?_
    refine ih _ _ (by rw [Nat.pow_succ, Nat.div_div_eq_div_mul]) (f.tr (vf.mI (Nat.le_refl _) (Nat.le_refl _))) (fun k hk h5 => ?_)
    by_cases y : k = 4 - i
    · subst y
      rw [rI_eq]
      show nI (u / 6 ^ i % 6) = nI (u / 6 ^ (5 - 1 - (4 - i)) % 6)
      rw [show 5 - 1 - (4 - i) = i by omega]
    · rw [rI_nk (by omega)]
      exact e1 k hk (by omega)
theorem c_M_openTo {s : Nat} (h : vSd μ m T) (w : vSay μ m s) (hs : vok s) : vm_Ex E 3 n_M_openTo [.ref m] 0 0 μ (vm_PI (nI (vop T s (tG T))) μ) := by
  have hG := h.2.2.2.1
  have hP := h.2.2.2.2.1
  refine vm_start (D := 2) (by decide) rfl (Nat.le_of_ble_eq_true rfl) (k := k_M_openTo) rfl (L := [.ref m, .retAddr 0, .retAddr 0]) rfl ?_
  refine vm_r_iconst (kI := nI 0) rfl ?_
  refine vm_r_istore_n1 rfl rfl rfl ?_
  refine vm_r_iconst (kI := nI 0) rfl ?_
  refine vm_r_istore_n2 rfl rfl rfl ?_
  refine vm_up (P := fun i => vm_W E (vm_Ex E 2) k_M_openTo _ (4, [.ref m, .int (nI (vop T s i)), .int (nI i)], [], 0, 0, μ)) (N := tG T) ?_ ?_ 0 (by omega)
  · refine vm_r_iload_n rfl rfl rfl ?_
    refine vm_r_aload_n rfl rfl rfl ?_
    refine vm_r_getR rfl (h.1.r2) ?_
    refine vm_r_iconst (kI := nI 0) rfl ?_
    refine vm_r_iaload rfl (h.1.s2) (by omega) (by omega) (h.2.1.1) ?_
    first | refine vm_r_icmp_geN rfl (by omega) (by omega) (fun _ => ?_) (fun hn => absurd hn (by omega)) | refine vm_r_icmp_ge rfl (fun _ => ?_) (fun hn => absurd hn (by omega))
    refine vm_r_iload_n rfl rfl rfl ?_
    refine vm_r_ret rfl (fun h => by cases h) (vm_PI.of rfl)
  · intro i hi ih
    have e1 : vop T s (i + 1) = vop T s i + if decide (vadm T s i) = true then 1 else 0 := rfl
    have hK := h.2.2.2.K4 hi
    have hE := h.2.2.2.E40 hi
    have hv : vdn (tK T i) s (tA T i) 5 ≤ 50 := vdn_le _ hs (h.2.2.2.A hi) 5 (Nat.le_refl _)
    rw [e1] at ih
    refine vm_r_iload_n rfl rfl rfl ?_
    refine vm_r_aload_n rfl rfl rfl ?_
    refine vm_r_getR rfl (h.1.r2) ?_
    refine vm_r_iconst (kI := nI 0) rfl ?_
    refine vm_r_iaload rfl (h.1.s2) (by omega) (by omega) (h.2.1.1) ?_
    first | refine vm_r_icmp_geN rfl (by omega) (by omega) (fun hn => absurd hn (by omega)) (fun _ => ?_) | refine vm_r_icmp_ge rfl (fun hn => absurd hn (by omega)) (fun _ => ?_)
    refine vm_r_iload_n rfl rfl rfl ?_
    refine vm_r_aload_n rfl rfl rfl ?_
    refine vm_r_iload_n rfl rfl rfl ?_
    refine vm_r_aload_n rfl rfl rfl ?_
    refine vm_r_getR rfl (h.1.r2) ?_
    refine vm_r_iconst (kI := nI 2) rfl ?_
    refine vm_r_iload_n rfl rfl rfl ?_
    first | refine vm_r_iaddN rfl ?_ | refine vm_r_iadd rfl ?_
    refine vm_r_iaload rfl (h.1.s2) (by omega) (by omega) ((h.2.1.2.2 i hi).1) ?_
    refine vm_r_cv3I rfl (by decide) (h.1.ob) (Nat.le_of_ble_eq_true rfl) (vm_Ex_le (by first | exact Nat.le_of_ble_eq_true rfl | omega) (c_M_farBy h.1 w (fun k hk => h.2.2.1.1 i k hi hk) (by omega) hK)) ?_
    refine vm_r_aload_n rfl rfl rfl ?_
    refine vm_r_getR rfl (h.1.r2) ?_
    refine vm_r_bipush (kI := nI 7) rfl ?_
    refine vm_r_iload_n rfl rfl rfl ?_
    first | refine vm_r_iaddN rfl ?_ | refine vm_r_iadd rfl ?_
    refine vm_r_iaload rfl (h.1.s2) (by omega) (by omega) ((h.2.1.2.2 i hi).2) ?_
    first | refine vm_r_icmp_gtN rfl (by omega) (by omega) (fun o => ?_) (fun o => ?_) | refine vm_r_icmp_gt rfl (fun o => ?_) (fun o => ?_)
    · rw [if_neg (by unfold vadm; simp; omega)] at ih
      refine vm_r_iconst (kI := nI 0) rfl ?_
      first | refine vm_r_iaddN rfl ?_ | refine vm_r_iadd rfl ?_
      refine vm_r_istore_n1 rfl rfl rfl ?_
      first | refine vm_r_iinc2N (y := 1) rfl rfl ?_ | refine vm_r_iinc2 rfl rfl ?_
      refine vm_r_goto rfl ?_
      exact ih
    · rw [if_pos (by unfold vadm; simp; omega)] at ih
      refine vm_r_iconst (kI := nI 1) rfl ?_
      refine vm_r_goto rfl ?_
      first | refine vm_r_iaddN rfl ?_ | refine vm_r_iadd rfl ?_
      refine vm_r_istore_n1 rfl rfl rfl ?_
      first | refine vm_r_iinc2N (y := 1) rfl rfl ?_ | refine vm_r_iinc2 rfl rfl ?_
      refine vm_r_goto rfl ?_
      exact ih
/-- how far a saying is from all gates together -/
def vfa (T : vt_T) (s n : Nat) : Nat := fb_sm (fun g => vdn (tK T g) s (tA T g) 5) n
theorem vfa_le {s : Nat} (hT : vt_ok T) (hs : vok s) : ∀ n, n ≤ tG T → vfa T s n ≤ 50 * n
  | 0, _ => Nat.zero_le _
  | n + 1, h => by
    have h1 := vfa_le hT hs n (by omega)
    have hv : vdn (tK T n) s (tA T n) 5 ≤ 50 := vdn_le _ hs (hT.A h) 5 (Nat.le_refl _)
    have e1 : vfa T s (n + 1) = vfa T s n + vdn (tK T n) s (tA T n) 5 := rfl
    omega
theorem c_M_farFromAll {s : Nat} (h : vSd μ m T) (w : vSay μ m s) (hs : vok s) : vm_Ex E 3 n_M_farFromAll [.ref m] 0 0 μ (vm_PI (nI (vfa T s (tG T))) μ) := by
  have hG := h.2.2.2.1
  refine vm_start (D := 2) (by decide) rfl (Nat.le_of_ble_eq_true rfl) (k := k_M_farFromAll) rfl (L := [.ref m, .retAddr 0, .retAddr 0]) rfl ?_
  refine vm_r_iconst (kI := nI 0) rfl ?_
  refine vm_r_istore_n1 rfl rfl rfl ?_
  refine vm_r_iconst (kI := nI 0) rfl ?_
  refine vm_r_istore_n2 rfl rfl rfl ?_
  refine vm_up (P := fun i => vm_W E (vm_Ex E 2) k_M_farFromAll _ (4, [.ref m, .int (nI (vfa T s i)), .int (nI i)], [], 0, 0, μ)) (N := tG T) ?_ ?_ 0 (by omega)
  · refine vm_r_iload_n rfl rfl rfl ?_
    refine vm_r_aload_n rfl rfl rfl ?_
    refine vm_r_getR rfl (h.1.r2) ?_
    refine vm_r_iconst (kI := nI 0) rfl ?_
    refine vm_r_iaload rfl (h.1.s2) (by omega) (by omega) (h.2.1.1) ?_
    first | refine vm_r_icmp_geN rfl (by omega) (by omega) (fun _ => ?_) (fun hn => absurd hn (by omega)) | refine vm_r_icmp_ge rfl (fun _ => ?_) (fun hn => absurd hn (by omega))
    refine vm_r_iload_n rfl rfl rfl ?_
    refine vm_r_ret rfl (fun h => by cases h) (vm_PI.of rfl)
  · intro i hi ih
    have e1 : vfa T s (i + 1) = vfa T s i + vdn (tK T i) s (tA T i) 5 := rfl
    have hK := h.2.2.2.K4 hi
    rw [e1] at ih
    refine vm_r_iload_n rfl rfl rfl ?_
    refine vm_r_aload_n rfl rfl rfl ?_
    refine vm_r_getR rfl (h.1.r2) ?_
    refine vm_r_iconst (kI := nI 0) rfl ?_
    refine vm_r_iaload rfl (h.1.s2) (by omega) (by omega) (h.2.1.1) ?_
    first | refine vm_r_icmp_geN rfl (by omega) (by omega) (fun hn => absurd hn (by omega)) (fun _ => ?_) | refine vm_r_icmp_ge rfl (fun hn => absurd hn (by omega)) (fun _ => ?_)
    refine vm_r_iload_n rfl rfl rfl ?_
    refine vm_r_aload_n rfl rfl rfl ?_
    refine vm_r_iload_n rfl rfl rfl ?_
    refine vm_r_aload_n rfl rfl rfl ?_
    refine vm_r_getR rfl (h.1.r2) ?_
    refine vm_r_iconst (kI := nI 2) rfl ?_
    refine vm_r_iload_n rfl rfl rfl ?_
    first | refine vm_r_iaddN rfl ?_ | refine vm_r_iadd rfl ?_
    refine vm_r_iaload rfl (h.1.s2) (by omega) (by omega) ((h.2.1.2.2 i hi).1) ?_
    refine vm_r_cv3I rfl (by decide) (h.1.ob) (Nat.le_of_ble_eq_true rfl) (vm_Ex_le (by first | exact Nat.le_of_ble_eq_true rfl | omega) (c_M_farBy h.1 w (fun k hk => h.2.2.1.1 i k hi hk) (by omega) hK)) ?_
    first | refine vm_r_iaddN rfl ?_ | refine vm_r_iadd rfl ?_
    refine vm_r_istore_n1 rfl rfl rfl ?_
    first | refine vm_r_iinc2N (y := 1) rfl rfl ?_ | refine vm_r_iinc2 rfl rfl ?_
    refine vm_r_goto rfl ?_
    exact ih
def vb3 (T : vt_T) (n : Nat) : Int32 := if n = 0 then -4 else nI (vbf T n).1
theorem vbf_2 (T : vt_T) : ∀ n, (vbf T n).2 ≤ n
  | 0 => Nat.le_refl 0
  | n + 1 => by
    rw [vbf_s]
    split
    · exact Nat.le_succ n
    · exact Nat.le_succ_of_le (vbf_2 T n)
theorem vbf_one (T : vt_T) : vbf T 1 = (vop T (cd6 5 0) (tG T), 0) := by
  have e : vbf T 1 = if (vbf T 0).1 < vop T (cd6 5 0) (tG T) then (vop T (cd6 5 0) (tG T), 0) else vbf T 0 := vbf_s T 0
  rw [e]
  split
  · rfl
  · rename_i q
    have q : ¬ 0 < vop T (cd6 5 0) (tG T) := q
    show (0, 0) = _
    rw [show vop T (cd6 5 0) (tG T) = 0 by omega]
theorem v_nI_le4 {j : Nat} (h : j < 2 ^ 31) : ¬ nI j ≤ -4 := fun q => absurd (Int32.le_trans (nI_pos' h) q) (by decide)
theorem c_M_best (h : vM μ m z) (k : vOk z) (w : Int32) : vm_Ex E 4 n_M_best [.ref m, .int w] 0 0 μ (vPM μ m (o_best z w)) := by
  have hG := k.1.1
  refine vm_start (D := 3) (by decide) rfl (Nat.le_of_ble_eq_true rfl) (k := k_M_best) rfl (L := [.ref m, .int w, .retAddr 0, .retAddr 0, .retAddr 0, .retAddr 0]) rfl ?_
  refine vm_r_iload_n rfl rfl rfl ?_
  refine vm_r_i2l rfl ?_
  refine vm_r_ldc2_w rfl ?_
  refine vm_r_ldc2_w (kL := lN 4) rfl ?_
  refine vm_r_cs3I rfl (by decide) (Nat.le_of_ble_eq_true rfl) (vm_Ex_le (by first | exact Nat.le_of_ble_eq_true rfl | omega) (c_M_in (x := w) (lo := -1) (hi := nI 4) rfl (by decide) (by decide))) ?_
  first | refine vm_r_if_neB rfl (fun hk => ?_) (fun hk => ?_) | refine vm_r_if_neN rfl (by omega) (fun hk => ?_) (fun hk => ?_) | refine vm_r_if_ne rfl (fun hk => ?_) (fun hk => ?_)
  · have hk' : -1 ≤ w ∧ w ≤ (4 : Int32) := hk
    refine vm_r_aload_n rfl rfl rfl ?_
    refine vm_r_cv1V rfl (by decide) (h.1.ob) (Nat.le_of_ble_eq_true rfl) (vm_Ex_le (by first | exact Nat.le_of_ble_eq_true rfl | omega) (c_M_aside h.1)) (fun μ1 q1 => ?_)
    refine vm_r_iconst (kI := nI 0) rfl ?_
    refine vm_r_istore_n2 rfl rfl rfl ?_
    refine vm_r_bipush rfl ?_
    refine vm_r_istore_n3 rfl rfl rfl ?_
    refine vm_r_iconst (kI := nI 0) rfl ?_
    refine vm_r_istore4 rfl rfl ?_
    obtain ⟨f1, e1⟩ := q1
    refine vm_up (P := fun j => ∀ (μ2 : vm_M) (u : Value), vg μ μ2 m → vSd μ2 m (zT z) → vm_W E (vm_Ex E 3) k_M_best (vPM μ m (o_best z w)) (28, [.ref m, .int w, .int (nI (vbf (zT z) j).2), .int (vb3 (zT z) j), .int (nI j), u], [], 0, 0, μ2)) (N := 7776) ?_ ?_ 0 (by omega) μ1 (.retAddr 0) (f1.g (by omega)) (h.sd k.1 f1 e1)
    · intro μ2 u g s
      have h2 := h.g g
      have e3 : vb3 (zT z) 7776 = nI (vbf (zT z) 7776).1 := rfl
      have b2 := vbf_2 (zT z) 7776
      rw [e3]
      refine vm_r_iload rfl rfl ?_
      refine vm_r_sipush (kI := nI 7776) rfl ?_
      first | refine vm_r_icmp_geN rfl (by omega) (by omega) (fun _ => ?_) (fun hn => absurd hn (by omega)) | refine vm_r_icmp_ge rfl (fun _ => ?_) (fun hn => absurd hn (by omega))
      refine vm_r_aload_n rfl rfl rfl ?_
      refine vm_r_iload_n rfl rfl rfl ?_
      refine vm_r_cv2V rfl (by decide) (h2.1.ob) (Nat.le_of_ble_eq_true rfl) (vm_Ex_le (by first | exact Nat.le_of_ble_eq_true rfl | omega) (c_M_sayingIs h2.1 (by omega))) (fun μ3 q3 => ?_)
      obtain ⟨f3, w3⟩ := q3
      have h3 := h2.f12 f3
      refine vm_r_iload_n rfl rfl rfl ?_
      refine vm_r_if_ge rfl (fun e => ?_) (fun e => ?_)
      · have e' : ¬ w = -1 := fun q => absurd e (by rw [q]; decide)
        obtain ⟨j, hj, rfl⟩ : ∃ j, j < 5 ∧ w = nI j := v_k04 hk'.1 hk'.2 e'
        refine vm_r_aload_n rfl rfl rfl ?_
        refine vm_r_getR rfl (h3.1.r12) ?_
        refine vm_r_iload_n rfl rfl rfl ?_
        refine vm_r_iaload rfl (h3.1.s12) (by omega) (by omega) (w3 j hj) ?_
        refine vm_r_ret rfl (fun h => by cases h) (vPM.g h (g.tr (f3.g (by omega))) (by rw [if_pos hk', if_neg e', nn_nI (by omega)]))
      · have e' : w = -1 := Classical.byContradiction fun q => by
          obtain ⟨j, hj, y⟩ := v_k04 hk'.1 hk'.2 q
          rw [y] at e
          exact e (nI_pos' (by omega))
        refine vm_r_iload_n rfl rfl rfl ?_
        refine vm_r_goto rfl ?_
        refine vm_r_ret rfl (fun h => by cases h) (vPM.g h (g.tr (f3.g (by omega))) (by rw [if_pos hk', if_pos e']))
    · intro j hj ih μ2 u g s
      have h2 := h.g g
      have hs := cd6_ok (k := 5) (u := j) (Nat.le_refl 5)
      have ho : vop (zT z) (cd6 5 j) (tG (zT z)) ≤ tG (zT z) := fb_ct_le _ _
      have hb := vbf_le (zT z) j
      have e4 : vb3 (zT z) (j + 1) = nI (vbf (zT z) (j + 1)).1 := if_neg (by omega)
      rw [e4, vbf_s (zT z) j] at ih
      refine vm_r_iload rfl rfl ?_
      refine vm_r_sipush (kI := nI 7776) rfl ?_
      first | refine vm_r_icmp_geN rfl (by omega) (by omega) (fun hn => absurd hn (by omega)) (fun _ => ?_) | refine vm_r_icmp_ge rfl (fun hn => absurd hn (by omega)) (fun _ => ?_)
      refine vm_r_aload_n rfl rfl rfl ?_
      refine vm_r_iload rfl rfl ?_
      refine vm_r_cv2V rfl (by decide) (h2.1.ob) (Nat.le_of_ble_eq_true rfl) (vm_Ex_le (by first | exact Nat.le_of_ble_eq_true rfl | omega) (c_M_sayingIs h2.1 (by omega))) (fun μ3 q3 => ?_)
      obtain ⟨f3, w3⟩ := q3
      have s3 := s.f f3
      refine vm_r_aload_n rfl rfl rfl ?_
      refine vm_r_cv1I rfl (by decide) (s3.1.ob) (Nat.le_of_ble_eq_true rfl) (vm_Ex_le (by first | exact Nat.le_of_ble_eq_true rfl | omega) (c_M_openTo s3 w3 hs)) ?_
      refine vm_r_istore5 rfl rfl ?_
      by_cases j0 : j = 0
      · subst j0
        have e5 : vb3 (zT z) 0 = -4 := rfl
        have e6 := vbf_one (zT z)
        rw [← vbf_s (zT z) 0, e6] at ih
        rw [e5]
        refine vm_r_iload rfl rfl ?_
        refine vm_r_iload_n rfl rfl rfl ?_
        refine vm_r_icmp_le rfl (fun hn => absurd hn ((v_nI_le4 (by omega)))) (fun _ => ?_)
        refine vm_r_iload rfl rfl ?_
        refine vm_r_goto rfl ?_
        refine vm_r_istore_n2 rfl rfl rfl ?_
        refine vm_r_iload rfl rfl ?_
        refine vm_r_iload_n rfl rfl rfl ?_
        refine vm_r_icmp_le rfl (fun hn => absurd hn ((v_nI_le4 (by omega)))) (fun _ => ?_)
        refine vm_r_iload rfl rfl ?_
        refine vm_r_goto rfl ?_
        refine vm_r_istore_n3 rfl rfl rfl ?_
        first | refine vm_r_iinc4N (y := 1) rfl rfl ?_ | refine vm_r_iinc4 rfl rfl ?_
        refine vm_r_goto rfl ?_
        exact ih μ3 _ (g.tr (f3.g (by omega))) s3
      · have e5 : vb3 (zT z) j = nI (vbf (zT z) j).1 := if_neg j0
        rw [e5]
        by_cases o : (vbf (zT z) j).1 < vop (zT z) (cd6 5 j) (tG (zT z))
        · rw [if_pos o] at ih
          refine vm_r_iload rfl rfl ?_
          refine vm_r_iload_n rfl rfl rfl ?_
          first | refine vm_r_icmp_leN rfl (by omega) (by omega) (fun hn => absurd hn (by omega)) (fun _ => ?_) | refine vm_r_icmp_le rfl (fun hn => absurd hn (by omega)) (fun _ => ?_)
          refine vm_r_iload rfl rfl ?_
          refine vm_r_goto rfl ?_
          refine vm_r_istore_n2 rfl rfl rfl ?_
          refine vm_r_iload rfl rfl ?_
          refine vm_r_iload_n rfl rfl rfl ?_
          first | refine vm_r_icmp_leN rfl (by omega) (by omega) (fun hn => absurd hn (by omega)) (fun _ => ?_) | refine vm_r_icmp_le rfl (fun hn => absurd hn (by omega)) (fun _ => ?_)
          refine vm_r_iload rfl rfl ?_
          refine vm_r_goto rfl ?_
          refine vm_r_istore_n3 rfl rfl rfl ?_
          first | refine vm_r_iinc4N (y := 1) rfl rfl ?_ | refine vm_r_iinc4 rfl rfl ?_
          refine vm_r_goto rfl ?_
          exact ih μ3 _ (g.tr (f3.g (by omega))) s3
        · rw [if_neg o] at ih
          refine vm_r_iload rfl rfl ?_
          refine vm_r_iload_n rfl rfl rfl ?_
          first | refine vm_r_icmp_leN rfl (by omega) (by omega) (fun _ => ?_) (fun hn => absurd hn (by omega)) | refine vm_r_icmp_le rfl (fun _ => ?_) (fun hn => absurd hn (by omega))
          refine vm_r_iload_n rfl rfl rfl ?_
          refine vm_r_istore_n2 rfl rfl rfl ?_
          refine vm_r_iload rfl rfl ?_
          refine vm_r_iload_n rfl rfl rfl ?_
          first | refine vm_r_icmp_leN rfl (by omega) (by omega) (fun _ => ?_) (fun hn => absurd hn (by omega)) | refine vm_r_icmp_le rfl (fun _ => ?_) (fun hn => absurd hn (by omega))
          refine vm_r_iload_n rfl rfl rfl ?_
          refine vm_r_istore_n3 rfl rfl rfl ?_
          first | refine vm_r_iinc4N (y := 1) rfl rfl ?_ | refine vm_r_iinc4 rfl rfl ?_
          refine vm_r_goto rfl ?_
          exact ih μ3 _ (g.tr (f3.g (by omega))) s3
  · refine vm_r_iconst rfl ?_
    refine vm_r_ret rfl (fun h => by cases h) (vPM.pure h (by rw [if_neg (show ¬ (-1 ≤ w ∧ w ≤ (4 : Int32)) from hk)]))
end MBEST
