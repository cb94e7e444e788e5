/-! The model's middle. -/
theorem v_swap (h : Nat → Nat → Nat) (a : Nat) : ∀ b, fb_sm (fun g => fb_sm (fun k => h g k) a) b = fb_sm (fun k => fb_sm (fun g => h g k) b) a
  | 0 => by
    show 0 = fb_sm (fun _ => 0) a
    rw [fb_sm_const]
    omega
  | b + 1 => by
    have e : fb_sm (fun k => fb_sm (fun g => h g k) (b + 1)) a = fb_sm (fun k => fb_sm (fun g => h g k) b + h b k) a := rfl
    rw [e, fb_sm_add, ← v_swap h a b]
    rfl
theorem vfa_sw (T : vt_T) (s n : Nat) : vfa T s n = fb_sm (fun k => vft T k (vd s k) n) 5 := v_swap (fun g k => vwt (tK T g) k * vab (vd s k) (vd (tA T g) k)) 5 n
theorem vmd_min (T : vt_T) (k : Nat) : ∀ n, (∀ x, x ≤ n → vft T k (vmd T k n) (tG T) ≤ vft T k x (tG T)) ∧ ∀ x, x < vmd T k n → vft T k (vmd T k n) (tG T) < vft T k x (tG T)
  | 0 => ⟨fun x hx => by obtain rfl : x = 0 := by omega
                         exact Nat.le_refl _, fun x hx => absurd hx (Nat.not_lt_zero x)⟩
  | n + 1 => by
    obtain ⟨h1, h2⟩ := vmd_min T k n
    rw [vmd_s]
    by_cases e : vft T k (n + 1) (tG T) < vft T k (vmd T k n) (tG T)
    · rw [if_pos e]
      refine ⟨fun x hx => ?_, fun x hx => ?_⟩
      · by_cases y : x = n + 1
        · rw [y]
          exact Nat.le_refl _
        · have := h1 x (by omega)
          omega
      · have := h1 x (by omega)
        omega
    · rw [if_neg e]
      refine ⟨fun x hx => ?_, h2⟩
      by_cases y : x = n + 1
      · rw [y]
        omega
      · exact h1 x (by omega)
def vmu (T : vt_T) : Nat := vmd T 0 5 * 1296 + vmd T 1 5 * 216 + vmd T 2 5 * 36 + vmd T 3 5 * 6 + vmd T 4 5
theorem vmu_d (T : vt_T) : vmu T < 7776 ∧ ∀ k, k < 5 → dg6 5 (vmu T) k = vmd T k 5 := by
  have h0 := vmd_le T 0 5
  have h1 := vmd_le T 1 5
  have h2 := vmd_le T 2 5
  have h3 := vmd_le T 3 5
  have h4 := vmd_le T 4 5
  unfold vmu dg6
  refine ⟨by omega, v_5 ?_ ?_ ?_ ?_ ?_⟩ <;> simp only [Nat.reduceSub, Nat.reducePow] <;> omega
def vF (T : vt_T) (u : Nat) : Nat := vfa T (cd6 5 u) (tG T)
theorem vF_eq (T : vt_T) (u : Nat) : vF T u = fb_sm (fun k => vft T k (dg6 5 u k) (tG T)) 5 := by
  unfold vF
  rw [vfa_sw]
  refine fb_sm_cong fun k hk => ?_
  rw [(cd6_d (k := 5) (u := u) (Nat.le_refl 5)).2 k hk, if_pos hk]
theorem vF_U (T : vt_T) : vF T (vmu T) = vmt T 5 := by
  rw [vF_eq]
  exact fb_sm_cong fun k hk => by rw [(vmu_d T).2 k hk]
theorem vF_min (T : vt_T) (u : Nat) : vF T (vmu T) ≤ vF T u := by
  rw [vF_U, vF_eq]
  exact fb_sm_le fun k hk => (vmd_min T k 5).1 _ (by have := dg6_lt 5 u k; omega)
theorem vF_lt (T : vt_T) {u : Nat} (hu : u < vmu T) : vF T (vmu T) < vF T u := by
  apply Classical.byContradiction
  intro q
  have hU := (vmu_d T).1
  have hl : ∀ k, k < 5 → vft T k (vmd T k 5) (tG T) ≤ vft T k (dg6 5 u k) (tG T) := fun k hk => (vmd_min T k 5).1 _ (by have := dg6_lt 5 u k; omega)
  rw [vF_U, vF_eq] at q
  have e1 : vmt T 5 = vft T 0 (vmd T 0 5) (tG T) + vft T 1 (vmd T 1 5) (tG T) + vft T 2 (vmd T 2 5) (tG T) + vft T 3 (vmd T 3 5) (tG T) + vft T 4 (vmd T 4 5) (tG T) := by
    simp only [vmt, fb_sm]
    omega
  have e2 : fb_sm (fun k => vft T k (dg6 5 u k) (tG T)) 5 = vft T 0 (dg6 5 u 0) (tG T) + vft T 1 (dg6 5 u 1) (tG T) + vft T 2 (dg6 5 u 2) (tG T) + vft T 3 (dg6 5 u 3) (tG T) + vft T 4 (dg6 5 u 4) (tG T) := by
    simp only [fb_sm]
    omega
  obtain ⟨l0, l1, l2, l3, l4⟩ := v_all5 hl
  have g : ∀ k, k < 5 → vft T k (dg6 5 u k) (tG T) ≤ vft T k (vmd T k 5) (tG T) → vmd T k 5 ≤ dg6 5 u k := fun k hk hle => by
    apply Classical.byContradiction
    intro y
    have := (vmd_min T k 5).2 (dg6 5 u k) (by omega)
    omega
  have g0 := g 0 (by decide) (by omega)
  have g1 := g 1 (by decide) (by omega)
  have g2 := g 2 (by decide) (by omega)
  have g3 := g 3 (by decide) (by omega)
  have g4 := g 4 (by decide) (by omega)
  clear g l0 l1 l2 l3 l4 e1 e2 hl q
  unfold dg6 at g0 g1 g2 g3 g4
  unfold vmu at hu hU
  simp only [Nat.reduceSub, Nat.reducePow] at g0 g1 g2 g3 g4
  omega
/-- the first of the first n codes with the least -/
def vmn (F : Nat → Nat) : Nat → Nat × Nat
  | 0 => (0, 1000000)
  | n + 1 => if F n < (vmn F n).2 then (n, F n) else vmn F n
theorem vmn_s (F : Nat → Nat) (n : Nat) : vmn F (n + 1) = if F n < (vmn F n).2 then (n, F n) else vmn F n := rfl
theorem vmn_le (F : Nat → Nat) : ∀ n, (vmn F n).1 ≤ n ∧ (vmn F n).2 ≤ 1000000
  | 0 => ⟨Nat.le_refl 0, Nat.le_refl _⟩
  | n + 1 => by
    have h := vmn_le F n
    rw [vmn_s]
    split
    · refine ⟨Nat.le_succ n, ?_⟩
      show F n ≤ 1000000
      omega
    · exact ⟨by omega, h.2⟩
theorem vmn_end {F : Nat → Nat} {U : Nat} (hb : F U < 1000000) (h2 : ∀ u, F U ≤ F u) (h3 : ∀ u, u < U → F U < F u) : ∀ n, (n ≤ U → F U < (vmn F n).2) ∧ (U < n → vmn F n = (U, F U))
  | 0 => ⟨fun _ => hb, fun q => absurd q (Nat.not_lt_zero U)⟩
  | n + 1 => by
    obtain ⟨i1, i2⟩ := vmn_end hb h2 h3 n
    rw [vmn_s]
    refine ⟨fun q => ?_, fun q => ?_⟩
    · have := i1 (by omega)
      split
      · exact h3 n (by omega)
      · exact this
    · by_cases y : U = n
      · subst y
        rw [if_pos (i1 (Nat.le_refl _))]
      · rw [i2 (by omega), if_neg]
        have := h2 n
        show ¬ F n < F U
        omega
section MMID
variable {E : vm_V} {μ μ' : vm_M} {m : Nat} {z : vZ} {T : vt_T}
theorem c_M_middle (h : vM μ m z) (k : vOk z) (w : Int32) : vm_Ex E 4 n_M_middle [.ref m, .int w] 0 0 μ (vPM μ m (o_middle z w)) := by
  have hG := k.1.1
  have hF : ∀ u, vF (zT z) u ≤ 250 := fun u => by
    have := vfa_le k.1 (cd6_ok (k := 5) (u := u) (Nat.le_refl 5)) (tG (zT z)) (Nat.le_refl _)
    unfold vF
    omega
  have hend := (vmn_end (F := vF (zT z)) (U := vmu (zT z)) (by have := hF (vmu (zT z)); omega) (vF_min (zT z)) (fun u hu => vF_lt (zT z) hu) 7776).2 (vmu_d (zT z)).1
  refine vm_start (D := 3) (by decide) rfl (Nat.le_of_ble_eq_true rfl) (k := k_M_middle) rfl (L := [.ref m, .int w, .retAddr 0, .retAddr 0, .retAddr 0, .retAddr 0]) rfl ?_
  refine vm_r_iload_n rfl rfl rfl ?_
  refine vm_r_i2l rfl ?_
  refine vm_r_ldc2_w rfl ?_
  refine vm_r_ldc2_w (kL := lN 4) rfl ?_
  refine vm_r_cs3I rfl (by decide) (Nat.le_of_ble_eq_true rfl) (vm_Ex_le (by first | exact Nat.le_of_ble_eq_true rfl | omega) (c_M_in (x := w) (lo := -1) (hi := nI 4) rfl (by decide) (by decide))) ?_
  first | refine vm_r_if_neB rfl (fun hk => ?_) (fun hk => ?_) | refine vm_r_if_neN rfl (by omega) (fun hk => ?_) (fun hk => ?_) | refine vm_r_if_ne rfl (fun hk => ?_) (fun hk => ?_)
  · have hk' : -1 ≤ w ∧ w ≤ (4 : Int32) := hk
    refine vm_r_aload_n rfl rfl rfl ?_
    refine vm_r_cv1V rfl (by decide) (h.1.ob) (Nat.le_of_ble_eq_true rfl) (vm_Ex_le (by first | exact Nat.le_of_ble_eq_true rfl | omega) (c_M_aside h.1)) (fun μ1 q1 => ?_)
    refine vm_r_iconst (kI := nI 0) rfl ?_
    refine vm_r_istore_n2 rfl rfl rfl ?_
    refine vm_r_ldc (kI := nI 1000000) rfl ?_
    refine vm_r_istore_n3 rfl rfl rfl ?_
    refine vm_r_iconst (kI := nI 0) rfl ?_
    refine vm_r_istore4 rfl rfl ?_
    obtain ⟨f1, e1⟩ := q1
    refine vm_up (P := fun j => ∀ (μ2 : vm_M) (u : Value), vg μ μ2 m → vSd μ2 m (zT z) → vm_W E (vm_Ex E 3) k_M_middle (vPM μ m (o_middle z w)) (28, [.ref m, .int w, .int (nI (vmn (vF (zT z)) j).1), .int (nI (vmn (vF (zT z)) j).2), .int (nI j), u], [], 0, 0, μ2)) (N := 7776) ?_ ?_ 0 (by omega) μ1 (.retAddr 0) (f1.g (by omega)) (h.sd k.1 f1 e1)
    · intro μ2 u g s
      have h2 := h.g g
      have hU := vmu_d (zT z)
      rw [hend]
      refine vm_r_iload rfl rfl ?_
      refine vm_r_sipush (kI := nI 7776) rfl ?_
      first | refine vm_r_icmp_geN rfl (by omega) (by omega) (fun _ => ?_) (fun hn => absurd hn (by omega)) | refine vm_r_icmp_ge rfl (fun _ => ?_) (fun hn => absurd hn (by omega))
      refine vm_r_aload_n rfl rfl rfl ?_
      refine vm_r_iload_n rfl rfl rfl ?_
      refine vm_r_cv2V rfl (by decide) (h2.1.ob) (Nat.le_of_ble_eq_true rfl) (vm_Ex_le (by first | exact Nat.le_of_ble_eq_true rfl | omega) (c_M_sayingIs h2.1 (Nat.lt_trans hU.1 (by decide)))) (fun μ3 q3 => ?_)
      obtain ⟨f3, w3⟩ := q3
      have h3 := h2.f12 f3
      refine vm_r_iload_n rfl rfl rfl ?_
      refine vm_r_if_ge rfl (fun e => ?_) (fun e => ?_)
      · have e' : ¬ w < 0 := Int32.not_lt.mpr e
        obtain ⟨j, hj, rfl⟩ : ∃ j, j < 5 ∧ w = nI j := v_k04' hk'.2 e'
        refine vm_r_aload_n rfl rfl rfl ?_
        refine vm_r_getR rfl (h3.1.r12) ?_
        refine vm_r_iload_n rfl rfl rfl ?_
        refine vm_r_iaload rfl (h3.1.s12) (by omega) (by omega) (w3 j hj) ?_
        refine vm_r_ret rfl (fun h => by cases h) (vPM.g h (g.tr (f3.g (by omega))) (by rw [if_pos hk', if_neg e', nn_nI (by omega), (cd6_d (k := 5) (u := vmu (zT z)) (Nat.le_refl 5)).2 j hj, if_pos hj, hU.2 j hj]))
      · have e' : w < 0 := Int32.not_le.mp e
        refine vm_r_iload_n rfl rfl rfl ?_
        refine vm_r_goto rfl ?_
        refine vm_r_ret rfl (fun h => by cases h) (vPM.g h (g.tr (f3.g (by omega))) (by rw [if_pos hk', if_pos e', vF_U]))
    · intro j hj ih μ2 u g s
      have h2 := h.g g
      have hs := cd6_ok (k := 5) (u := j) (Nat.le_refl 5)
      have hf := hF j
      have hb := vmn_le (vF (zT z)) j
      rw [vmn_s (vF (zT z)) j] at ih
      refine vm_r_iload rfl rfl ?_
      refine vm_r_sipush (kI := nI 7776) rfl ?_
      first | refine vm_r_icmp_geN rfl (by omega) (by omega) (fun hn => absurd hn (by omega)) (fun _ => ?_) | refine vm_r_icmp_ge rfl (fun hn => absurd hn (by omega)) (fun _ => ?_)
      refine vm_r_aload_n rfl rfl rfl ?_
      refine vm_r_iload rfl rfl ?_
      refine vm_r_cv2V rfl (by decide) (h2.1.ob) (Nat.le_of_ble_eq_true rfl) (vm_Ex_le (by first | exact Nat.le_of_ble_eq_true rfl | omega) (c_M_sayingIs h2.1 (by omega))) (fun μ3 q3 => ?_)
      obtain ⟨f3, w3⟩ := q3
      have s3 := s.f f3
      have cf : vm_Ex E 3 n_M_farFromAll [.ref m] 0 0 μ3 (vm_PI (nI (vF (zT z) j)) μ3) := c_M_farFromAll s3 w3 hs
      refine vm_r_aload_n rfl rfl rfl ?_
      refine vm_r_cv1I rfl (by decide) (s3.1.ob) (Nat.le_of_ble_eq_true rfl) (vm_Ex_le (by first | exact Nat.le_of_ble_eq_true rfl | omega) (cf)) ?_
      refine vm_r_istore5 rfl rfl ?_
      by_cases o : vF (zT z) j < (vmn (vF (zT z)) j).2
      · rw [if_pos o] at ih
        refine vm_r_iload rfl rfl ?_
        refine vm_r_iload_n rfl rfl rfl ?_
        first | refine vm_r_icmp_geN rfl (by omega) (by omega) (fun hn => absurd hn (by omega)) (fun _ => ?_) | refine vm_r_icmp_ge rfl (fun hn => absurd hn (by omega)) (fun _ => ?_)
        refine vm_r_iload rfl rfl ?_
        refine vm_r_goto rfl ?_
        refine vm_r_istore_n2 rfl rfl rfl ?_
        refine vm_r_iload rfl rfl ?_
        refine vm_r_iload_n rfl rfl rfl ?_
        first | refine vm_r_icmp_geN rfl (by omega) (by omega) (fun hn => absurd hn (by omega)) (fun _ => ?_) | refine vm_r_icmp_ge rfl (fun hn => absurd hn (by omega)) (fun _ => ?_)
        refine vm_r_iload rfl rfl ?_
        refine vm_r_goto rfl ?_
        refine vm_r_istore_n3 rfl rfl rfl ?_
        first | refine vm_r_iinc4N (y := 1) rfl rfl ?_ | refine vm_r_iinc4 rfl rfl ?_
        refine vm_r_goto rfl ?_
        exact ih μ3 _ (g.tr (f3.g (by omega))) s3
      · rw [if_neg o] at ih
        refine vm_r_iload rfl rfl ?_
        refine vm_r_iload_n rfl rfl rfl ?_
        first | refine vm_r_icmp_geN rfl (by omega) (by omega) (fun _ => ?_) (fun hn => absurd hn (by omega)) | refine vm_r_icmp_ge rfl (fun _ => ?_) (fun hn => absurd hn (by omega))
        refine vm_r_iload_n rfl rfl rfl ?_
        refine vm_r_istore_n2 rfl rfl rfl ?_
        refine vm_r_iload rfl rfl ?_
        refine vm_r_iload_n rfl rfl rfl ?_
        first | refine vm_r_icmp_geN rfl (by omega) (by omega) (fun _ => ?_) (fun hn => absurd hn (by omega)) | refine vm_r_icmp_ge rfl (fun _ => ?_) (fun hn => absurd hn (by omega))
        refine vm_r_iload_n rfl rfl rfl ?_
        refine vm_r_istore_n3 rfl rfl rfl ?_
        first | refine vm_r_iinc4N (y := 1) rfl rfl ?_ | refine vm_r_iinc4 rfl rfl ?_
        refine vm_r_goto rfl ?_
        exact ih μ3 _ (g.tr (f3.g (by omega))) s3
  · refine vm_r_iconst rfl ?_
    refine vm_r_ret rfl (fun h => by cases h) (vPM.pure h (by rw [if_neg (show ¬ (-1 ≤ w ∧ w ≤ (4 : Int32)) from hk)]))
end MMID
