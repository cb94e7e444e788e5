/-! The class's methods: what is best, what one has noticed. -/
theorem fb_sm_s (f : Nat → Nat) (n : Nat) : fb_sm f (n + 1) = fb_sm f n + f n := rfl
theorem v_p32 : ∀ j, j < 6 → 1 * 2 ^ j < 2 ^ 32 := by decide +kernel
theorem v_k04 {k : Int32} (h0 : (-1 : Int32) ≤ k) (h1 : k ≤ 4) (h : ¬ k = -1) : ∃ j, j < 5 ∧ k = nI j := by
  have h2 : ¬ k < 0 := by
    intro q
    apply h
    have h0' := Int32.le_iff_toInt_le.mp h0
    have q' := Int32.lt_iff_toInt_lt.mp q
    apply Int32.toInt_inj.mp
    have e1 : (-1 : Int32).toInt = -1 := by decide
    have e2 : (0 : Int32).toInt = 0 := by decide
    omega
  obtain ⟨j, h3, rfl⟩ := nI_of h2
  exact ⟨j, by have := (nI_leI (b := 4) h3 (by decide)).mp h1; omega, rfl⟩
theorem v_k04' {k : Int32} (h1 : k ≤ 4) (h2 : ¬ k < 0) : ∃ j, j < 5 ∧ k = nI j := by
  obtain ⟨j, h3, rfl⟩ := nI_of h2
  exact ⟨j, by have := (nI_leI (b := 4) h3 (by decide)).mp h1; omega, rfl⟩
def vo32 (n : Nat) : Int32 := if n = 32 then -4 else nI n
theorem vap_le (T : vt_T) : ∀ n, n ≤ 32 → ((vap T n).1 < n ∨ (vap T n).1 = 32) ∧ (vap T n).2 ≤ 6
  | 0, _ => ⟨Or.inr rfl, Nat.le_refl _⟩
  | n + 1, h => by
    have := vap_le T n (by omega)
    rw [vap_s]
    split
    · exact ⟨Or.inl (Nat.lt_succ_self n), by show vbc n ≤ 6; omega⟩
    · exact ⟨this.1.imp (fun q => by omega) id, this.2⟩
def v_dn (n : Nat) : Int32 := if n = 41 then -1 else nI (40 - n)
theorem v_dn_s : ∀ n, n < 41 → nI (40 - n) + (-1) = v_dn (n + 1) := by decide +kernel
section API3
variable {E : vm_V} {μ : vm_M} {x : Nat} {z : vZ}
theorem vne_le (z : vZ) : ∀ n, (vne z n).2 ≤ 9
  | 0 => Nat.le_refl _
  | n + 1 => by
    have := vne_le z n
    rw [vne_s]
    split
    · show vmi z n ≤ 9
      omega
    · exact this
theorem c_G_opens (h : vXS μ x z) (p : Int32) : vm_Ex E 5 n_G_opens [.ref x, .int p] 0 0 μ (vPG μ x (o_opens z p)) := by
  have hG := h.t.ok.G5
  have hP := h.t.ok.P6
  refine vm_start (D := 4) (by decide) rfl (Nat.le_of_ble_eq_true rfl) (k := k_G_opens) rfl (L := [.ref x, .int p, .retAddr 0, .retAddr 0]) rfl ?_
  refine vm_r_aload_n rfl rfl rfl ?_
  refine vm_r_getR rfl (h.r1) ?_
  refine vm_r_iload_n rfl rfl rfl ?_
  refine vm_r_cv2I rfl (by decide) (h.t.s.ob) (Nat.le_of_ble_eq_true rfl) (vm_Ex_le (by first | exact Nat.le_of_ble_eq_true rfl | omega) (c_TN_isPerson h.t p)) ?_
  first | refine vm_r_if_neB rfl (fun hp => ?_) (fun hp => ?_) | refine vm_r_if_neN rfl (by omega) (fun hp => ?_) (fun hp => ?_) | refine vm_r_if_ne rfl (fun hp => ?_) (fun hp => ?_)
  · obtain ⟨i, hi, rfl⟩ := vix_n (by omega) hp
    refine vm_r_iconst (kI := nI 0) rfl ?_
    refine vm_r_istore_n2 rfl rfl rfl ?_
    refine vm_r_iconst (kI := nI 0) rfl ?_
    refine vm_r_istore_n3 rfl rfl rfl ?_
    refine vm_up (P := fun j => vm_W E (vm_Ex E 4) k_G_opens _ (17, [.ref x, .int (nI i), .int (nI (vmask (fun g => decide (vadm (zT z) (tB (zT z) i) g)) j)), .int (nI j)], [], 0, 0, μ)) (N := tG (zT z)) ?_ ?_ 0 (by omega)
    · refine vm_r_iload_n rfl rfl rfl ?_
      refine vm_r_aload_n rfl rfl rfl ?_
      refine vm_r_getR rfl (h.r1) ?_
      refine vm_r_getI rfl (h.t.gG) ?_
      first | refine vm_r_icmp_geN rfl (by omega) (by omega) (fun _ => ?_) (fun hn => absurd hn (by omega)) | refine vm_r_icmp_ge rfl (fun _ => ?_) (fun hn => absurd hn (by omega))
      refine vm_r_iload_n rfl rfl rfl ?_
      refine vm_r_ret rfl (fun h => by cases h) (vPG.pure h (by rw [if_pos (show vix _ _ from hp), nn_nI (by omega)]))
    · intro j hj ih
      rw [vmask_s, ← Nat.one_mul (2 ^ j)] at ih
      refine vm_r_iload_n rfl rfl rfl ?_
      refine vm_r_aload_n rfl rfl rfl ?_
      refine vm_r_getR rfl (h.r1) ?_
      refine vm_r_getI rfl (h.t.gG) ?_
      first | refine vm_r_icmp_geN rfl (by omega) (by omega) (fun hn => absurd hn (by omega)) (fun _ => ?_) | refine vm_r_icmp_ge rfl (fun hn => absurd hn (by omega)) (fun _ => ?_)
      refine vm_r_aload_n rfl rfl rfl ?_
      refine vm_r_getR rfl (h.r1) ?_
      refine vm_r_aload_n rfl rfl rfl ?_
      refine vm_r_getR rfl (h.r1) ?_
      refine vm_r_getR rfl (h.t.s.rB) ?_
      refine vm_r_iload_n rfl rfl rfl ?_
      refine vm_r_iaload rfl (h.t.s.sB) (by omega) (by omega) (h.t.vB hi) ?_
      refine vm_r_iload_n rfl rfl rfl ?_
      refine vm_r_cv3I rfl (by decide) (h.t.s.ob) (Nat.le_of_ble_eq_true rfl) (vm_Ex_le (by first | exact Nat.le_of_ble_eq_true rfl | omega) (c_TN_admits h.t (h.t.ok.B hi) hj)) ?_
      first | refine vm_r_if_eqB rfl (fun e => ?_) (fun e => ?_) | refine vm_r_if_eqN rfl (by omega) (fun e => ?_) (fun e => ?_) | refine vm_r_if_eq rfl (fun e => ?_) (fun e => ?_)
      · rw [if_neg (by simp [e])] at ih
        first | refine vm_r_iinc3N (y := 1) rfl rfl ?_ | refine vm_r_iinc3 rfl rfl ?_
        refine vm_r_goto rfl ?_
        exact ih
      · rw [if_pos (by simp [e])] at ih
        refine vm_r_iload_n rfl rfl rfl ?_
        refine vm_r_iconst (kI := nI 1) rfl ?_
        refine vm_r_iload_n rfl rfl rfl ?_
        refine vm_r_ishlN rfl (by omega) (v_p32 j (by omega)) ?_
        first | refine vm_r_iorN rfl ?_ | refine vm_r_ior rfl ?_
        refine vm_r_istore_n2 rfl rfl rfl ?_
        first | refine vm_r_iinc3N (y := 1) rfl rfl ?_ | refine vm_r_iinc3 rfl rfl ?_
        refine vm_r_goto rfl ?_
        exact ih
  · refine vm_r_iconst rfl ?_
    refine vm_r_ret rfl (fun h => by cases h) (vPG.pure h (by rw [if_neg hp]))
theorem c_G_best (h : vXS μ x z) (k : Int32) : vm_Ex E 11 n_G_best [.ref x, .int k] 0 0 μ (vPG μ x (o_best z k)) := by
  have hb := h.2.2.2.2.2.2.2.1.1
  have hz := h.2.2.2.2.2.2.2.1.2
  refine vm_start (D := 10) (by decide) rfl (Nat.le_of_ble_eq_true rfl) (k := k_G_best) rfl (L := [.ref x, .int k]) rfl ?_
  refine vm_r_iload_n rfl rfl rfl ?_
  refine vm_r_iconst rfl ?_
  refine vm_r_iconst (kI := nI 4) rfl ?_
  refine vm_r_cs3I rfl (by decide) (Nat.le_of_ble_eq_true rfl) (vm_Ex_le (by first | exact Nat.le_of_ble_eq_true rfl | omega) (c_G_within _ _ _)) ?_
  first | refine vm_r_if_neB rfl (fun hk => ?_) (fun hk => ?_) | refine vm_r_if_neN rfl (by omega) (fun hk => ?_) (fun hk => ?_) | refine vm_r_if_ne rfl (fun hk => ?_) (fun hk => ?_)
  · have hk' : -1 ≤ k ∧ k ≤ (4 : Int32) := hk
    refine vm_r_aload_n rfl rfl rfl ?_
    refine vm_r_getR rfl (h.r6) ?_
    refine vm_r_aload_n rfl rfl rfl ?_
    refine vm_r_getR rfl (h.r1) ?_
    refine vm_r_cv2V rfl (by decide) (hb.ob) (Nat.le_of_ble_eq_true rfl) (vm_Ex_le (by first | exact Nat.le_of_ble_eq_true rfl | omega) (c_BS_run hb h.t (by omega) hz)) (fun μ1 q1 => ?_)
    obtain ⟨f1, z1, e1, e2⟩ := q1
    have x1 : vx μ μ1 x (x + 95) := f1.x.wd (by omega) (by omega)
    have h1 := h.bst f1.x (by rw [f1.2.1]) z1
    have hb1 := h1.2.2.2.2.2.2.2.1.1
    refine vm_r_iload_n rfl rfl rfl ?_
    refine vm_r_iconst rfl ?_
    first | refine vm_r_icmp_neN rfl (by omega) (by omega) (fun e => ?_) (fun e => ?_) | refine vm_r_icmp_ne rfl (fun e => ?_) (fun e => ?_)
    · obtain ⟨j, hj, rfl⟩ : ∃ j, j < 5 ∧ k = nI j := v_k04 hk.1 hk.2 e
      have hc := (cd6_d (u := (vbf (zT z) 7776).2) (Nat.le_refl 5)).1
      refine vm_r_aload_n rfl rfl rfl ?_
      refine vm_r_getR rfl (h1.r6) ?_
      refine vm_r_getI rfl (⟨_, hb1.1.1, rfl, e2⟩) ?_
      refine vm_r_iload_n rfl rfl rfl ?_
      refine vm_r_cs2I rfl (by decide) (Nat.le_of_ble_eq_true rfl) (vm_Ex_le (by first | exact Nat.le_of_ble_eq_true rfl | omega) (c_SY_soundAt (by omega) (by omega))) ?_
      refine vm_r_ret rfl (fun h => by cases h) (⟨_, rfl, by unfold o_best; rw [if_pos hk', if_neg e, nn_nI (by omega)], x1, h1⟩)
    · refine vm_r_aload_n rfl rfl rfl ?_
      refine vm_r_getR rfl (h1.r6) ?_
      refine vm_r_getI rfl (hb1.g1 e1) ?_
      refine vm_r_goto rfl ?_
      refine vm_r_ret rfl (fun h => by cases h) (⟨_, rfl, by unfold o_best; rw [if_pos hk', if_pos (Classical.not_not.mp e)], x1, h1⟩)
  · refine vm_r_iconst rfl ?_
    refine vm_r_ret rfl (fun h => by cases h) (vPG.pure h (by rw [if_neg (show ¬ (-1 ≤ k ∧ k ≤ (4 : Int32)) from hk)]))
theorem c_G_middle (h : vXS μ x z) (k : Int32) : vm_Ex E 5 n_G_middle [.ref x, .int k] 0 0 μ (vPG μ x (o_middle z k)) := by
  refine vm_start (D := 4) (by decide) rfl (Nat.le_of_ble_eq_true rfl) (k := k_G_middle) rfl (L := [.ref x, .int k, .retAddr 0, .retAddr 0]) rfl ?_
  refine vm_r_iload_n rfl rfl rfl ?_
  refine vm_r_iconst rfl ?_
  refine vm_r_iconst (kI := nI 4) rfl ?_
  refine vm_r_cs3I rfl (by decide) (Nat.le_of_ble_eq_true rfl) (vm_Ex_le (by first | exact Nat.le_of_ble_eq_true rfl | omega) (c_G_within _ _ _)) ?_
  first | refine vm_r_if_neB rfl (fun hk => ?_) (fun hk => ?_) | refine vm_r_if_neN rfl (by omega) (fun hk => ?_) (fun hk => ?_) | refine vm_r_if_ne rfl (fun hk => ?_) (fun hk => ?_)
  · have hk' : -1 ≤ k ∧ k ≤ (4 : Int32) := hk
    refine vm_r_iload_n rfl rfl rfl ?_
    refine vm_r_if_lt rfl (fun e => ?_) (fun e => ?_)
    · refine vm_r_iconst (kI := nI 0) rfl ?_
      refine vm_r_istore_n2 rfl rfl rfl ?_
      refine vm_r_iconst (kI := nI 0) rfl ?_
      refine vm_r_istore_n3 rfl rfl rfl ?_
      refine vm_up (P := fun j => vm_W E (vm_Ex E 4) k_G_middle _ (28, [.ref x, .int k, .int (nI (vmt (zT z) j)), .int (nI j)], [], 0, 0, μ)) (N := 5) ?_ ?_ 0 (by omega)
      · refine vm_r_iload_n rfl rfl rfl ?_
        refine vm_r_iconst (kI := nI 5) rfl ?_
        first | refine vm_r_icmp_geN rfl (by omega) (by omega) (fun _ => ?_) (fun hn => absurd hn (by omega)) | refine vm_r_icmp_ge rfl (fun _ => ?_) (fun hn => absurd hn (by omega))
        refine vm_r_iload_n rfl rfl rfl ?_
        refine vm_r_ret rfl (fun h => by cases h) (vPG.pure h (by rw [if_pos hk', if_pos e]))
      · intro j hj ih
        have hm := vmd_le (zT z) j 5
        have e1 : vmt (zT z) (j + 1) = vmt (zT z) j + vft (zT z) j (vmd (zT z) j 5) (tG (zT z)) := rfl
        rw [e1] at ih
        refine vm_r_iload_n rfl rfl rfl ?_
        refine vm_r_iconst (kI := nI 5) rfl ?_
        first | refine vm_r_icmp_geN rfl (by omega) (by omega) (fun hn => absurd hn (by omega)) (fun _ => ?_) | refine vm_r_icmp_ge rfl (fun hn => absurd hn (by omega)) (fun _ => ?_)
        refine vm_r_iload_n rfl rfl rfl ?_
        refine vm_r_aload_n rfl rfl rfl ?_
        refine vm_r_getR rfl (h.r1) ?_
        refine vm_r_iload_n rfl rfl rfl ?_
        refine vm_r_aload_n rfl rfl rfl ?_
        refine vm_r_getR rfl (h.r1) ?_
        refine vm_r_iload_n rfl rfl rfl ?_
        refine vm_r_cv2I rfl (by decide) (h.t.s.ob) (Nat.le_of_ble_eq_true rfl) (vm_Ex_le (by first | exact Nat.le_of_ble_eq_true rfl | omega) (c_TN_middleSound h.t hj)) ?_
        refine vm_r_cv3I rfl (by decide) (h.t.s.ob) (Nat.le_of_ble_eq_true rfl) (vm_Ex_le (by first | exact Nat.le_of_ble_eq_true rfl | omega) (c_TN_farTogether h.t hj (by omega))) ?_
        first | refine vm_r_iaddN rfl ?_ | refine vm_r_iadd rfl ?_
        refine vm_r_istore_n2 rfl rfl rfl ?_
        first | refine vm_r_iinc3N (y := 1) rfl rfl ?_ | refine vm_r_iinc3 rfl rfl ?_
        refine vm_r_goto rfl ?_
        exact ih
    · obtain ⟨j, hj, rfl⟩ : ∃ j, j < 5 ∧ k = nI j := v_k04' hk.2 e
      refine vm_r_aload_n rfl rfl rfl ?_
      refine vm_r_getR rfl (h.r1) ?_
      refine vm_r_iload_n rfl rfl rfl ?_
      refine vm_r_cv2I rfl (by decide) (h.t.s.ob) (Nat.le_of_ble_eq_true rfl) (vm_Ex_le (by first | exact Nat.le_of_ble_eq_true rfl | omega) (c_TN_middleSound h.t hj)) ?_
      refine vm_r_ret rfl (fun h => by cases h) (vPG.pure h (by rw [if_pos hk', if_neg e, nn_nI (by omega)]))
  · refine vm_r_iconst rfl ?_
    refine vm_r_ret rfl (fun h => by cases h) (vPG.pure h (by rw [if_neg (show ¬ (-1 ≤ k ∧ k ≤ (4 : Int32)) from hk)]))
theorem c_G_lessons (h : vXS μ x z) (p g w : Int32) : vm_Ex E 7 n_G_lessons [.ref x, .int p, .int g, .int w] 0 0 μ (vPG μ x (o_lessons z p g w)) := by
  have hG := h.t.ok.G5
  have hP := h.t.ok.P6
  obtain ⟨st, hl⟩ := h.2.2.2.2.2.2.2.2
  refine vm_start (D := 6) (by decide) rfl (Nat.le_of_ble_eq_true rfl) (k := k_G_lessons) rfl (L := [.ref x, .int p, .int g, .int w]) rfl ?_
  refine vm_r_aload_n rfl rfl rfl ?_
  refine vm_r_getR rfl (h.r1) ?_
  refine vm_r_iload_n rfl rfl rfl ?_
  refine vm_r_cv2I rfl (by decide) (h.t.s.ob) (Nat.le_of_ble_eq_true rfl) (vm_Ex_le (by first | exact Nat.le_of_ble_eq_true rfl | omega) (c_TN_isPerson h.t p)) ?_
  first | refine vm_r_if_eqB rfl (fun hp => ?_) (fun hp => ?_) | refine vm_r_if_eqN rfl (by omega) (fun hp => ?_) (fun hp => ?_) | refine vm_r_if_eq rfl (fun hp => ?_) (fun hp => ?_)
  · refine vm_r_iconst rfl ?_
    refine vm_r_ret rfl (fun h => by cases h) (vPG.pure h (by rw [if_neg (fun q => hp q.1)]))
  · refine vm_r_aload_n rfl rfl rfl ?_
    refine vm_r_getR rfl (h.r1) ?_
    refine vm_r_iload_n rfl rfl rfl ?_
    refine vm_r_cv2I rfl (by decide) (h.t.s.ob) (Nat.le_of_ble_eq_true rfl) (vm_Ex_le (by first | exact Nat.le_of_ble_eq_true rfl | omega) (c_TN_isGate h.t g)) ?_
    first | refine vm_r_if_eqB rfl (fun hg => ?_) (fun hg => ?_) | refine vm_r_if_eqN rfl (by omega) (fun hg => ?_) (fun hg => ?_) | refine vm_r_if_eq rfl (fun hg => ?_) (fun hg => ?_)
    · refine vm_r_iconst rfl ?_
      refine vm_r_ret rfl (fun h => by cases h) (vPG.pure h (by rw [if_neg (fun q => hg q.2.1)]))
    · refine vm_r_iload_n rfl rfl rfl ?_
      refine vm_r_iconst (kI := nI 0) rfl ?_
      refine vm_r_iconst (kI := nI 1) rfl ?_
      refine vm_r_cs3I rfl (by decide) (Nat.le_of_ble_eq_true rfl) (vm_Ex_le (by first | exact Nat.le_of_ble_eq_true rfl | omega) (c_G_within _ _ _)) ?_
      first | refine vm_r_if_neB rfl (fun hw => ?_) (fun hw => ?_) | refine vm_r_if_neN rfl (by omega) (fun hw => ?_) (fun hw => ?_) | refine vm_r_if_ne rfl (fun hw => ?_) (fun hw => ?_)
      · obtain ⟨i, hi, rfl⟩ := vix_n (by omega) hp
        obtain ⟨j, hj, rfl⟩ := vix_n (by omega) hg
        obtain ⟨k, hk, rfl⟩ := vrg_n (by decide) hw
        have hv : vix (nI i) (tP (zT z)) ∧ vix (nI j) (tG (zT z)) ∧ vrg (nI k) 1 := ⟨hp, hg, hw⟩
        refine vm_r_aload_n rfl rfl rfl ?_
        refine vm_r_getR rfl (h.r7) ?_
        refine vm_r_aload_n rfl rfl rfl ?_
        refine vm_r_getR rfl (h.r1) ?_
        refine vm_r_iload_n rfl rfl rfl ?_
        refine vm_r_iload_n rfl rfl rfl ?_
        refine vm_r_cv4V rfl (by decide) (hl.ob) (Nat.le_of_ble_eq_true rfl) (vm_Ex_le (by first | exact Nat.le_of_ble_eq_true rfl | omega) (c_LS_run hl h.t (by omega) hi hj)) (fun μ1 q1 => ?_)
        obtain ⟨x1, ⟨st', hl'⟩, e3, e4⟩ := q1
        have h1 := h.les (x1.wd (by omega) (by omega)) hl'
        have x2 : vx μ μ1 x (x + 95) := x1.wd (by omega) (by omega)
        refine vm_r_iload_n rfl rfl rfl ?_
        first | refine vm_r_if_neB rfl (fun e => ?_) (fun e => ?_) | refine vm_r_if_neN rfl (by omega) (fun e => ?_) (fun e => ?_) | refine vm_r_if_ne rfl (fun e => ?_) (fun e => ?_)
        · refine vm_r_aload_n rfl rfl rfl ?_
          refine vm_r_getR rfl (h1.r7) ?_
          refine vm_r_getI rfl (⟨_, hl'.1.1, rfl, e4⟩) ?_
          refine vm_r_ret rfl (fun h => by cases h) (⟨_, rfl, by unfold o_lessons; rw [if_pos hv, nn_nI (by omega), nn_nI (by omega), nn_nI (by omega), if_neg (by omega)], x2, h1⟩)
        · refine vm_r_aload_n rfl rfl rfl ?_
          refine vm_r_getR rfl (h1.r7) ?_
          refine vm_r_getI rfl (⟨_, hl'.1.1, rfl, e3⟩) ?_
          refine vm_r_goto rfl ?_
          refine vm_r_ret rfl (fun h => by cases h) (⟨_, rfl, by unfold o_lessons; rw [if_pos hv, nn_nI (by omega), nn_nI (by omega), nn_nI (by omega), if_pos (by omega)], x2, h1⟩)
      · refine vm_r_iconst rfl ?_
        refine vm_r_ret rfl (fun h => by cases h) (vPG.pure h (by rw [if_neg (fun q => hw q.2.2)]))
theorem c_G_apart (h : vXS μ x z) (w : Int32) : vm_Ex E 2 n_G_apart [.ref x, .int w] 0 0 μ (vPG μ x (o_apart z w)) := by
  refine vm_start (D := 1) (by decide) rfl (Nat.le_of_ble_eq_true rfl) (k := k_G_apart) rfl (L := [.ref x, .int w, .retAddr 0, .retAddr 0, .retAddr 0, .retAddr 0]) rfl ?_
  refine vm_r_iload_n rfl rfl rfl ?_
  refine vm_r_iconst (kI := nI 0) rfl ?_
  refine vm_r_iconst (kI := nI 1) rfl ?_
  refine vm_r_cs3I rfl (by decide) (Nat.le_of_ble_eq_true rfl) (vm_Ex_le (by first | exact Nat.le_of_ble_eq_true rfl | omega) (c_G_within _ _ _)) ?_
  first | refine vm_r_if_neB rfl (fun hw => ?_) (fun hw => ?_) | refine vm_r_if_neN rfl (by omega) (fun hw => ?_) (fun hw => ?_) | refine vm_r_if_ne rfl (fun hw => ?_) (fun hw => ?_)
  · obtain ⟨k, hk, rfl⟩ := vrg_n (by decide) hw
    refine vm_r_bipush rfl ?_
    refine vm_r_istore_n2 rfl rfl rfl ?_
    refine vm_r_bipush (kI := nI 6) rfl ?_
    refine vm_r_istore_n3 rfl rfl rfl ?_
    refine vm_r_iconst (kI := nI 0) rfl ?_
    refine vm_r_istore4 rfl rfl ?_
    refine vm_up (P := fun j => ∀ v : Value, vm_W E (vm_Ex E 1) k_G_apart _ (20, [.ref x, .int (nI k), .int (vo32 (vap (zT z) j).1), .int (nI (vap (zT z) j).2), .int (nI j), v], [], 0, 0, μ)) (N := 32) ?_ ?_ 0 (by omega) (.retAddr 0)
    · intro v
      have hl := (vap_le (zT z) 32 (by omega)).1
      refine vm_r_iload rfl rfl ?_
      refine vm_r_bipush (kI := nI 32) rfl ?_
      first | refine vm_r_icmp_geN rfl (by omega) (by omega) (fun _ => ?_) (fun hn => absurd hn (by omega)) | refine vm_r_icmp_ge rfl (fun _ => ?_) (fun hn => absurd hn (by omega))
      refine vm_r_iload_n rfl rfl rfl ?_
      refine vm_r_bipush rfl ?_
      refine vm_r_icmp_eq rfl (fun e => ?_) (fun e => ?_)
      · have e' : (vap (zT z) 32).1 = 32 := Classical.byContradiction fun q => v_nI4 (j := (vap (zT z) 32).1) (by omega) (by unfold vo32 at e; rw [if_neg q] at e; exact e)
        have e2 : vo32 (vap (zT z) 32).1 = -4 := if_pos e'
        refine vm_r_iload_n rfl rfl rfl ?_
        refine vm_r_goto rfl ?_
        refine vm_r_ret rfl (fun h => by cases h) (vPG.pure h (by rw [if_pos (show vrg _ _ from hw), if_pos e', e2]))
      · have e' : ¬ (vap (zT z) 32).1 = 32 := fun q => e (if_pos q)
        have e2 : vo32 (vap (zT z) 32).1 = nI (vap (zT z) 32).1 := if_neg e'
        refine vm_r_iload_n rfl rfl rfl ?_
        refine vm_r_iconst (kI := nI 1) rfl ?_
        first | refine vm_r_icmp_neN rfl (by omega) (by omega) (fun f => ?_) (fun f => ?_) | refine vm_r_icmp_ne rfl (fun f => ?_) (fun f => ?_)
        · refine vm_r_iload_n rfl rfl rfl ?_
          refine vm_r_ret rfl (fun h => by cases h) (vPG.pure h (by rw [if_pos (show vrg _ _ from hw), nn_nI (by omega), if_neg e', if_neg (by omega)]))
        · refine vm_r_iload_n rfl rfl rfl ?_
          refine vm_r_goto rfl ?_
          refine vm_r_ret rfl (fun h => by cases h) (vPG.pure h (by rw [if_pos (show vrg _ _ from hw), nn_nI (by omega), if_neg e', if_pos (by omega), e2]))
    · intro j hj ih v
      rw [vap_s] at ih
      have hb := (vap_le (zT z) j (by omega)).2
      have hc : vbc j ≤ 5 := fb_ct_le _ 5
      refine vm_r_iload rfl rfl ?_
      refine vm_r_bipush (kI := nI 32) rfl ?_
      first | refine vm_r_icmp_geN rfl (by omega) (by omega) (fun hn => absurd hn (by omega)) (fun _ => ?_) | refine vm_r_icmp_ge rfl (fun hn => absurd hn (by omega)) (fun _ => ?_)
      refine vm_r_iload rfl rfl ?_
      refine vm_r_cs1I rfl (by decide) (Nat.le_of_ble_eq_true rfl) (vm_Ex_le (by first | exact Nat.le_of_ble_eq_true rfl | omega) (c_J_bitCount hj)) ?_
      refine vm_r_istore5 rfl rfl ?_
      refine vm_r_iload rfl rfl ?_
      refine vm_r_iload_n rfl rfl rfl ?_
      first | refine vm_r_icmp_geN rfl (by omega) (by omega) (fun e => ?_) (fun e => ?_) | refine vm_r_icmp_ge rfl (fun e => ?_) (fun e => ?_)
      · rw [if_neg (fun q => absurd q.1 (by omega))] at ih
        first | refine vm_r_iinc4N (y := 1) rfl rfl ?_ | refine vm_r_iinc4 rfl rfl ?_
        refine vm_r_goto rfl ?_
        exact ih _
      · refine vm_r_aload_n rfl rfl rfl ?_
        refine vm_r_getR rfl (h.r1) ?_
        refine vm_r_iload rfl rfl ?_
        refine vm_r_cv2X rfl (by decide) (h.t.s.ob) (Nat.le_of_ble_eq_true rfl) (vm_Ex_le (by first | exact Nat.le_of_ble_eq_true rfl | omega) (c_TN_differsEverywhere h.t hj)) (fun v1 μ1 q1 => ?_)
        obtain ⟨rfl, ho, hq⟩ := q1
        have hd := vdif_iff (T := zT z) (m := j)
        rcases ho with rfl | rfl
        · rw [if_pos ⟨by omega, hd.mpr (hq.mp rfl)⟩] at ih
          have eo : vo32 j = nI j := if_neg (by omega)
          rw [eo] at ih
          refine vm_r_if_eq rfl (fun hn => absurd hn ((by decide))) (fun _ => ?_)
          refine vm_r_iload rfl rfl ?_
          refine vm_r_istore_n2 rfl rfl rfl ?_
          refine vm_r_iload rfl rfl ?_
          refine vm_r_istore_n3 rfl rfl rfl ?_
          first | refine vm_r_iinc4N (y := 1) rfl rfl ?_ | refine vm_r_iinc4 rfl rfl ?_
          refine vm_r_goto rfl ?_
          exact ih _
        · rw [if_neg (fun y => absurd (hq.mpr (hd.mp y.2)) (by decide))] at ih
          refine vm_r_if_eq rfl (fun _ => ?_) (fun hn => absurd hn ((by decide)))
          first | refine vm_r_iinc4N (y := 1) rfl rfl ?_ | refine vm_r_iinc4 rfl rfl ?_
          refine vm_r_goto rfl ?_
          exact ih _
  · refine vm_r_iconst rfl ?_
    refine vm_r_ret rfl (fun h => by cases h) (vPG.pure h (by rw [if_neg (show ¬ vrg w 1 from hw)]))
theorem vvis_1 (T : vt_T) (p g : Nat) : (vvis T p g).1 = T.1 ∧ tK (vvis T p g) = tK T ∧ tE (vvis T p g) = tE T := by
  unfold vvis
  split <;> exact ⟨rfl, rfl, rfl⟩
theorem c_G_crosses (h : vXS μ x z) (p g q : Int32) : vm_Ex E 6 n_G_crosses [.ref x, .int p, .int g, .int q] 0 0 μ (vPG μ x (o_crosses z p g q)) := by
  have hG := h.t.ok.G5
  have hP := h.t.ok.P6
  refine vm_start (D := 5) (by decide) rfl (Nat.le_of_ble_eq_true rfl) (k := k_G_crosses) rfl (L := [.ref x, .int p, .int g, .int q, .retAddr 0]) rfl ?_
  refine vm_r_aload_n rfl rfl rfl ?_
  refine vm_r_getR rfl (h.r1) ?_
  refine vm_r_iload_n rfl rfl rfl ?_
  refine vm_r_cv2I rfl (by decide) (h.t.s.ob) (Nat.le_of_ble_eq_true rfl) (vm_Ex_le (by first | exact Nat.le_of_ble_eq_true rfl | omega) (c_TN_isPerson h.t p)) ?_
  first | refine vm_r_if_eqB rfl (fun hp => ?_) (fun hp => ?_) | refine vm_r_if_eqN rfl (by omega) (fun hp => ?_) (fun hp => ?_) | refine vm_r_if_eq rfl (fun hp => ?_) (fun hp => ?_)
  · refine vm_r_iconst rfl ?_
    refine vm_r_ret rfl (fun h => by cases h) (vPG.pure h (by rw [if_neg (fun y => hp y.1)]))
  · refine vm_r_aload_n rfl rfl rfl ?_
    refine vm_r_getR rfl (h.r1) ?_
    refine vm_r_iload_n rfl rfl rfl ?_
    refine vm_r_cv2I rfl (by decide) (h.t.s.ob) (Nat.le_of_ble_eq_true rfl) (vm_Ex_le (by first | exact Nat.le_of_ble_eq_true rfl | omega) (c_TN_isGate h.t g)) ?_
    first | refine vm_r_if_eqB rfl (fun hg => ?_) (fun hg => ?_) | refine vm_r_if_eqN rfl (by omega) (fun hg => ?_) (fun hg => ?_) | refine vm_r_if_eq rfl (fun hg => ?_) (fun hg => ?_)
    · refine vm_r_iconst rfl ?_
      refine vm_r_ret rfl (fun h => by cases h) (vPG.pure h (by rw [if_neg (fun y => hg y.2.1)]))
    · refine vm_r_aload_n rfl rfl rfl ?_
      refine vm_r_getR rfl (h.r1) ?_
      refine vm_r_iload_n rfl rfl rfl ?_
      refine vm_r_cv2I rfl (by decide) (h.t.s.ob) (Nat.le_of_ble_eq_true rfl) (vm_Ex_le (by first | exact Nat.le_of_ble_eq_true rfl | omega) (c_TN_isGate h.t q)) ?_
      first | refine vm_r_if_eqB rfl (fun hq => ?_) (fun hq => ?_) | refine vm_r_if_eqN rfl (by omega) (fun hq => ?_) (fun hq => ?_) | refine vm_r_if_eq rfl (fun hq => ?_) (fun hq => ?_)
      · refine vm_r_iconst rfl ?_
        refine vm_r_ret rfl (fun h => by cases h) (vPG.pure h (by rw [if_neg (fun y => hq y.2.2.1)]))
      · refine vm_r_iload_n rfl rfl rfl ?_
        refine vm_r_iload_n rfl rfl rfl ?_
        refine vm_r_icmp_ne rfl (fun e => ?_) (fun e => ?_)
        · have hv0 : vix p (tP (zT z)) ∧ vix g (tG (zT z)) ∧ vix q (tG (zT z)) ∧ ¬ g = q := ⟨hp, hg, hq, e⟩
          obtain ⟨i, hi, rfl⟩ := vix_n (by omega) hp
          obtain ⟨j, hj, rfl⟩ := vix_n (by omega) hg
          obtain ⟨k, hk, rfl⟩ := vix_n (by omega) hq
          unfold o_crosses
          rw [if_pos hv0, nn_nI (by omega), nn_nI (by omega), nn_nI (by omega)]
          refine vm_r_aload_n rfl rfl rfl ?_
          refine vm_r_getR rfl (h.r2) ?_
          refine vm_r_aload_n rfl rfl rfl ?_
          refine vm_r_getR rfl (h.r1) ?_
          refine vm_r_cv2V rfl (by decide) (vs_T.ob h.2.2.2.1) (Nat.le_of_ble_eq_true rfl) (vm_Ex_le (by first | exact Nat.le_of_ble_eq_true rfl | omega) (c_TN_copyFrom h.2.2.2.1 h.t (by omega))) (fun μ1 q1 => ?_)
          refine vm_r_iconst (kI := nI 0) rfl ?_
          refine vm_r_istore4 rfl rfl ?_
          obtain ⟨f1, t1⟩ := q1
          refine vm_up (P := fun a => ∀ (μ' : vm_M) (T' : vt_T), vXS μ' x z → vx μ μ' x (x + 95) → vt_C μ' (x + 9) T' → T'.1 = (zT z).1 → vcrs i j k (60 - a) a T' = vcrs i j k 60 0 (zT z) → vm_W E (vm_Ex E 5) k_G_crosses (vPG μ x (vcrs i j k 60 0 (zT z), z)) (54, [.ref x, .int (nI i), .int (nI j), .int (nI k), .int (nI a)], [], 0, 0, μ')) (N := 60) ?_ ?_ 0 (by omega) μ1 (zT z) (h.trl (f1.x.wd (by omega) (by omega))) (f1.x.wd (by omega) (by omega)) t1 rfl rfl
          · intro μ' T' h' x' t' eT hv
            have eG : tG T' = tG (zT z) := congrArg Prod.fst eT
            rw [← hv]
            have hA := (t'.ok.A (g := j) (by omega)).1
            have hB := (t'.ok.A (g := k) (by omega)).1
            refine vm_r_iload rfl rfl ?_
            refine vm_r_bipush (kI := nI 60) rfl ?_
            first | refine vm_r_icmp_geN rfl (by omega) (by omega) (fun _ => ?_) (fun hn => absurd hn (by omega)) | refine vm_r_icmp_ge rfl (fun _ => ?_) (fun hn => absurd hn (by omega))
            refine vm_r_aload_n rfl rfl rfl ?_
            refine vm_r_getR rfl (h'.r2) ?_
            refine vm_r_getR rfl (t'.s.rA) ?_
            refine vm_r_iload_n rfl rfl rfl ?_
            refine vm_r_iaload rfl (t'.s.sA) (by omega) (by omega) (t'.vA (by omega)) ?_
            refine vm_r_aload_n rfl rfl rfl ?_
            refine vm_r_getR rfl (h'.r2) ?_
            refine vm_r_getR rfl (t'.s.rA) ?_
            refine vm_r_iload_n rfl rfl rfl ?_
            refine vm_r_iaload rfl (t'.s.sA) (by omega) (by omega) (t'.vA (by omega)) ?_
            first | refine vm_r_icmp_neN rfl (by omega) (by omega) (fun f => ?_) (fun f => ?_) | refine vm_r_icmp_ne rfl (fun f => ?_) (fun f => ?_)
            · refine vm_r_bipush rfl ?_
              refine vm_r_ret rfl (fun h => by cases h) (⟨_, rfl, (if_neg f).symm, x', h'⟩)
            · refine vm_r_bipush (kI := nI 60) rfl ?_
              refine vm_r_goto rfl ?_
              refine vm_r_ret rfl (fun h => by cases h) (⟨_, rfl, (if_pos f).symm, x', h'⟩)
          · intro a ha ih μ' T' h' x' t' eT hv
            have eG : tG T' = tG (zT z) := congrArg Prod.fst eT
            have eP : tP T' = tP (zT z) := congrArg Prod.snd eT
            have hA := (t'.ok.A (g := j) (by omega)).1
            have hB := (t'.ok.A (g := k) (by omega)).1
            rw [show 60 - a = 60 - (a + 1) + 1 by omega, vcrs_s] at hv
            refine vm_r_iload rfl rfl ?_
            refine vm_r_bipush (kI := nI 60) rfl ?_
            first | refine vm_r_icmp_geN rfl (by omega) (by omega) (fun hn => absurd hn (by omega)) (fun _ => ?_) | refine vm_r_icmp_ge rfl (fun hn => absurd hn (by omega)) (fun _ => ?_)
            refine vm_r_aload_n rfl rfl rfl ?_
            refine vm_r_getR rfl (h'.r2) ?_
            refine vm_r_getR rfl (t'.s.rA) ?_
            refine vm_r_iload_n rfl rfl rfl ?_
            refine vm_r_iaload rfl (t'.s.sA) (by omega) (by omega) (t'.vA (by omega)) ?_
            refine vm_r_aload_n rfl rfl rfl ?_
            refine vm_r_getR rfl (h'.r2) ?_
            refine vm_r_getR rfl (t'.s.rA) ?_
            refine vm_r_iload_n rfl rfl rfl ?_
            refine vm_r_iaload rfl (t'.s.sA) (by omega) (by omega) (t'.vA (by omega)) ?_
            first | refine vm_r_icmp_neN rfl (by omega) (by omega) (fun f => ?_) (fun f => ?_) | refine vm_r_icmp_ne rfl (fun f => ?_) (fun f => ?_)
            · rw [if_neg f] at hv
              refine vm_r_aload_n rfl rfl rfl ?_
              refine vm_r_getR rfl (h'.r2) ?_
              refine vm_r_iload_n rfl rfl rfl ?_
              refine vm_r_iload rfl rfl ?_
              refine vm_r_iconst (kI := nI 2) rfl ?_
              refine vm_r_iremN rfl (by omega) (by omega) (by omega) ?_
              first | refine vm_r_if_neB rfl (fun o => ?_) (fun o => ?_) | refine vm_r_if_neN rfl (by omega) (fun o => ?_) (fun o => ?_) | refine vm_r_if_ne rfl (fun o => ?_) (fun o => ?_)
              · have oo : ¬ a % 2 = 0 := by omega
                rw [if_neg oo] at hv
                refine vm_r_iload_n rfl rfl rfl ?_
                refine vm_r_cv3X rfl (by decide) (t'.s.ob) (Nat.le_of_ble_eq_true rfl) (vm_Ex_le (by first | exact Nat.le_of_ble_eq_true rfl | omega) (c_TN_visit t' (by omega) (by omega))) (fun v2 μ2 q2 => ?_)
                obtain ⟨rfl, f2, t2⟩ := q2
                first | refine vm_r_if_neB rfl (fun ad => ?_) (fun ad => ?_) | refine vm_r_if_neN rfl (by omega) (fun ad => ?_) (fun ad => ?_) | refine vm_r_if_ne rfl (fun ad => ?_) (fun ad => ?_)
                · rw [if_pos ad] at hv
                  first | refine vm_r_iinc4N (y := 1) rfl rfl ?_ | refine vm_r_iinc4 rfl rfl ?_
                  refine vm_r_goto rfl ?_
                  exact ih μ2 _ (h'.trl (f2.x.wd (by omega) (by omega))) (x'.tr (f2.x.wd (by omega) (by omega))) t2 ((vvis_1 T' i k).1.trans eT) hv
                · rw [if_neg ad] at hv
                  refine vm_r_bipush rfl ?_
                  refine vm_r_ret rfl (fun h => by cases h) (⟨_, rfl, hv, x'.tr (f2.x.wd (by omega) (by omega)), h'.trl (f2.x.wd (by omega) (by omega))⟩)
              · have oo : a % 2 = 0 := by omega
                rw [if_pos oo] at hv
                refine vm_r_iload_n rfl rfl rfl ?_
                refine vm_r_goto rfl ?_
                refine vm_r_cv3X rfl (by decide) (t'.s.ob) (Nat.le_of_ble_eq_true rfl) (vm_Ex_le (by first | exact Nat.le_of_ble_eq_true rfl | omega) (c_TN_visit t' (by omega) (by omega))) (fun v2 μ2 q2 => ?_)
                obtain ⟨rfl, f2, t2⟩ := q2
                first | refine vm_r_if_neB rfl (fun ad => ?_) (fun ad => ?_) | refine vm_r_if_neN rfl (by omega) (fun ad => ?_) (fun ad => ?_) | refine vm_r_if_ne rfl (fun ad => ?_) (fun ad => ?_)
                · rw [if_pos ad] at hv
                  first | refine vm_r_iinc4N (y := 1) rfl rfl ?_ | refine vm_r_iinc4 rfl rfl ?_
                  refine vm_r_goto rfl ?_
                  exact ih μ2 _ (h'.trl (f2.x.wd (by omega) (by omega))) (x'.tr (f2.x.wd (by omega) (by omega))) t2 ((vvis_1 T' i j).1.trans eT) hv
                · rw [if_neg ad] at hv
                  refine vm_r_bipush rfl ?_
                  refine vm_r_ret rfl (fun h => by cases h) (⟨_, rfl, hv, x'.tr (f2.x.wd (by omega) (by omega)), h'.trl (f2.x.wd (by omega) (by omega))⟩)
            · rw [if_pos f] at hv
              refine vm_r_iload rfl rfl ?_
              refine vm_r_ret rfl (fun h => by cases h) (⟨_, rfl, hv, x', h'⟩)
        · refine vm_r_iconst rfl ?_
          refine vm_r_ret rfl (fun h => by cases h) (vPG.pure h (by rw [if_neg (fun y => e y.2.2.2)]))
theorem c_G_seen (h : vXS μ x z) (p g i : Int32) : vm_Ex E 2 n_G_seen [.ref x, .int p, .int g, .int i] 0 0 μ (vPG μ x (o_seen z p g i)) := by
  have hG := h.t.ok.G5
  have hP := h.t.ok.P6
  refine vm_start (D := 1) (by decide) rfl (Nat.le_of_ble_eq_true rfl) (k := k_G_seen) rfl (L := [.ref x, .int p, .int g, .int i]) rfl ?_
  refine vm_r_aload_n rfl rfl rfl ?_
  refine vm_r_getR rfl (h.r1) ?_
  refine vm_r_iload_n rfl rfl rfl ?_
  refine vm_r_cv2I rfl (by decide) (h.t.s.ob) (Nat.le_of_ble_eq_true rfl) (vm_Ex_le (by first | exact Nat.le_of_ble_eq_true rfl | omega) (c_TN_isPerson h.t p)) ?_
  first | refine vm_r_if_eqB rfl (fun hp => ?_) (fun hp => ?_) | refine vm_r_if_eqN rfl (by omega) (fun hp => ?_) (fun hp => ?_) | refine vm_r_if_eq rfl (fun hp => ?_) (fun hp => ?_)
  · unfold o_seen
    rw [if_neg (fun y => hp y.1)]
    refine vm_r_iconst rfl ?_
    refine vm_r_ret rfl (fun h => by cases h) (vPG.pure h rfl)
  · refine vm_r_aload_n rfl rfl rfl ?_
    refine vm_r_getR rfl (h.r1) ?_
    refine vm_r_iload_n rfl rfl rfl ?_
    refine vm_r_cv2I rfl (by decide) (h.t.s.ob) (Nat.le_of_ble_eq_true rfl) (vm_Ex_le (by first | exact Nat.le_of_ble_eq_true rfl | omega) (c_TN_isGate h.t g)) ?_
    first | refine vm_r_if_eqB rfl (fun hg => ?_) (fun hg => ?_) | refine vm_r_if_eqN rfl (by omega) (fun hg => ?_) (fun hg => ?_) | refine vm_r_if_eq rfl (fun hg => ?_) (fun hg => ?_)
    · unfold o_seen
      rw [if_neg (fun y => hg y.2.1)]
      refine vm_r_iconst rfl ?_
      refine vm_r_ret rfl (fun h => by cases h) (vPG.pure h rfl)
    · refine vm_r_iload_n rfl rfl rfl ?_
      refine vm_r_iconst (kI := nI 0) rfl ?_
      refine vm_r_iconst (kI := nI 1) rfl ?_
      refine vm_r_cs3I rfl (by decide) (Nat.le_of_ble_eq_true rfl) (vm_Ex_le (by first | exact Nat.le_of_ble_eq_true rfl | omega) (c_G_within _ _ _)) ?_
      first | refine vm_r_if_neB rfl (fun hi => ?_) (fun hi => ?_) | refine vm_r_if_neN rfl (by omega) (fun hi => ?_) (fun hi => ?_) | refine vm_r_if_ne rfl (fun hi => ?_) (fun hi => ?_)
      · unfold o_seen
        rw [if_pos (show vix _ _ ∧ vix _ _ ∧ vrg _ 1 from ⟨hp, hg, hi⟩)]
        obtain ⟨a, ha, rfl⟩ := vix_n (by omega) hp
        obtain ⟨b, hb, rfl⟩ := vix_n (by omega) hg
        obtain ⟨c, hc, rfl⟩ := vrg_n (by decide) hi
        rw [nn_nI (by omega), nn_nI (by omega), nn_nI (by omega)]
        have fin : ∀ (v1 : Int32) (μ1 : vm_M), (v1 = vm_bi (wN (zW z) < 6) ∧ vf μ μ1 (x + 79) (x + 79 + 5) ∧ (wN (zW z) < 6 → vW μ1 (x + 79) (vwsee (zW z) a b c)) ∧ (¬ wN (zW z) < 6 → μ1 = μ)) → vm_W E (vm_Ex E 1) k_G_seen (vPG μ x (if wN (zW z) < 6 then (nI (wN (zW z) + 1), zw z (vwsee (zW z) a b c)) else (-3, z))) (52, [.ref x, .int (nI a), .int (nI b), .int (nI c)], [.int v1], 0, 0, μ1) := by
          rintro v1 μ1 ⟨rfl, f1, w1, n1⟩
          by_cases e : wN (zW z) < 6
          · rw [if_pos e]
            have h1 := h.wit (f1.x.wd (by omega) (by omega)) (w1 e)
            first | refine vm_r_if_eqB rfl (fun hn => absurd hn (not_not_intro e)) (fun _ => ?_) | refine vm_r_if_eqN rfl (by omega) (fun hn => absurd hn (not_not_intro e)) (fun _ => ?_) | refine vm_r_if_eq rfl (fun hn => absurd hn (not_not_intro e)) (fun _ => ?_)
            refine vm_r_aload_n rfl rfl rfl ?_
            refine vm_r_getR rfl (h1.r5) ?_
            refine vm_r_getI rfl (h1.w.gN) ?_
            refine vm_r_goto rfl ?_
            refine vm_r_ret rfl (fun h => by cases h) (⟨_, rfl, rfl, f1.x.wd (by omega) (by omega), h1⟩)
          · rw [if_neg e]
            obtain rfl := n1 e
            first | refine vm_r_if_eqB rfl (fun _ => ?_) (fun hn => absurd hn (e)) | refine vm_r_if_eqN rfl (by omega) (fun _ => ?_) (fun hn => absurd hn (e)) | refine vm_r_if_eq rfl (fun _ => ?_) (fun hn => absurd hn (e))
            refine vm_r_bipush rfl ?_
            refine vm_r_ret rfl (fun h => by cases h) (vPG.pure h rfl)
        refine vm_r_aload_n rfl rfl rfl ?_
        refine vm_r_getR rfl (h.r5) ?_
        refine vm_r_iload_n rfl rfl rfl ?_
        refine vm_r_iload_n rfl rfl rfl ?_
        refine vm_r_iload_n rfl rfl rfl ?_
        refine vm_r_iconst (kI := nI 1) rfl ?_
        first | refine vm_r_icmp_neN rfl (by omega) (by omega) (fun e => ?_) (fun e => ?_) | refine vm_r_icmp_ne rfl (fun e => ?_) (fun e => ?_)
        · obtain rfl : c = 0 := by omega
          refine vm_r_iconst (kI := nI 0) rfl ?_
          refine vm_r_cv4X rfl (by decide) (h.w.ob) (Nat.le_of_ble_eq_true rfl) (vm_Ex_le (by first | exact Nat.le_of_ble_eq_true rfl | omega) (c_WI_noteSeen (i := 0) h.w (by omega) (by omega) (by omega))) (fun v1 μ1 q1 => ?_)
          exact fin v1 μ1 q1
        · obtain rfl : c = 1 := by omega
          refine vm_r_iconst (kI := nI 1) rfl ?_
          refine vm_r_goto rfl ?_
          refine vm_r_cv4X rfl (by decide) (h.w.ob) (Nat.le_of_ble_eq_true rfl) (vm_Ex_le (by first | exact Nat.le_of_ble_eq_true rfl | omega) (c_WI_noteSeen (i := 1) h.w (by omega) (by omega) (by omega))) (fun v1 μ1 q1 => ?_)
          exact fin v1 μ1 q1
      · unfold o_seen
        rw [if_neg (fun y => hi y.2.2)]
        refine vm_r_iconst rfl ?_
        refine vm_r_ret rfl (fun h => by cases h) (vPG.pure h rfl)
theorem c_G_heard (h : vXS μ x z) (k s : Int32) : vm_Ex E 2 n_G_heard [.ref x, .int k, .int s] 0 0 μ (vPG μ x (o_heard z k s)) := by
  unfold o_heard
  refine vm_start (D := 1) (by decide) rfl (Nat.le_of_ble_eq_true rfl) (k := k_G_heard) rfl (L := [.ref x, .int k, .int s]) rfl ?_
  refine vm_r_iload_n rfl rfl rfl ?_
  refine vm_r_iconst (kI := nI 0) rfl ?_
  refine vm_r_iconst (kI := nI 4) rfl ?_
  refine vm_r_cs3I rfl (by decide) (Nat.le_of_ble_eq_true rfl) (vm_Ex_le (by first | exact Nat.le_of_ble_eq_true rfl | omega) (c_G_within _ _ _)) ?_
  first | refine vm_r_if_eqB rfl (fun hk => ?_) (fun hk => ?_) | refine vm_r_if_eqN rfl (by omega) (fun hk => ?_) (fun hk => ?_) | refine vm_r_if_eq rfl (fun hk => ?_) (fun hk => ?_)
  · rw [if_neg (fun y => hk y.1)]
    refine vm_r_iconst rfl ?_
    refine vm_r_ret rfl (fun h => by cases h) (vPG.pure h rfl)
  · refine vm_r_iload_n rfl rfl rfl ?_
    refine vm_r_iconst (kI := nI 0) rfl ?_
    refine vm_r_iconst (kI := nI 5) rfl ?_
    refine vm_r_cs3I rfl (by decide) (Nat.le_of_ble_eq_true rfl) (vm_Ex_le (by first | exact Nat.le_of_ble_eq_true rfl | omega) (c_G_within _ _ _)) ?_
    first | refine vm_r_if_neB rfl (fun hs => ?_) (fun hs => ?_) | refine vm_r_if_neN rfl (by omega) (fun hs => ?_) (fun hs => ?_) | refine vm_r_if_ne rfl (fun hs => ?_) (fun hs => ?_)
    · rw [if_pos (show vrg _ 4 ∧ vrg _ 5 from ⟨hk, hs⟩)]
      obtain ⟨a, ha, rfl⟩ := vrg_n (by decide) hk
      obtain ⟨b, hb, rfl⟩ := vrg_n (by decide) hs
      rw [nn_nI (by omega), nn_nI (by omega)]
      refine vm_r_aload_n rfl rfl rfl ?_
      refine vm_r_getR rfl (h.r5) ?_
      refine vm_r_iload_n rfl rfl rfl ?_
      refine vm_r_iload_n rfl rfl rfl ?_
      refine vm_r_cv3X rfl (by decide) (h.w.ob) (Nat.le_of_ble_eq_true rfl) (vm_Ex_le (by first | exact Nat.le_of_ble_eq_true rfl | omega) (c_WI_noteHeard h.w (by omega) (by omega))) (fun v1 μ1 q1 => ?_)
      obtain ⟨rfl, f1, w1, n1⟩ := q1
      by_cases e : wM (zW z) < 8
      · rw [if_pos e]
        have h1 := h.wit (f1.x.wd (by omega) (by omega)) (w1 e)
        first | refine vm_r_if_eqB rfl (fun hn => absurd hn (not_not_intro e)) (fun _ => ?_) | refine vm_r_if_eqN rfl (by omega) (fun hn => absurd hn (not_not_intro e)) (fun _ => ?_) | refine vm_r_if_eq rfl (fun hn => absurd hn (not_not_intro e)) (fun _ => ?_)
        refine vm_r_aload_n rfl rfl rfl ?_
        refine vm_r_getR rfl (h1.r5) ?_
        refine vm_r_getI rfl (h1.w.gM) ?_
        refine vm_r_goto rfl ?_
        refine vm_r_ret rfl (fun h => by cases h) (⟨_, rfl, rfl, f1.x.wd (by omega) (by omega), h1⟩)
      · rw [if_neg e]
        obtain rfl := n1 e
        first | refine vm_r_if_eqB rfl (fun _ => ?_) (fun hn => absurd hn (e)) | refine vm_r_if_eqN rfl (by omega) (fun _ => ?_) (fun hn => absurd hn (e)) | refine vm_r_if_eq rfl (fun _ => ?_) (fun hn => absurd hn (e))
        refine vm_r_bipush rfl ?_
        refine vm_r_ret rfl (fun h => by cases h) (vPG.pure h rfl)
    · rw [if_neg (fun y => hs y.2)]
      refine vm_r_iconst rfl ?_
      refine vm_r_ret rfl (fun h => by cases h) (vPG.pure h rfl)
theorem c_G_from (h : vXS μ x z) : vm_Ex E 3 n_G_from [.ref x] 0 0 μ (vPG μ x (o_from z)) := by
  have hG := h.t.ok.G5
  refine vm_start (D := 2) (by decide) rfl (Nat.le_of_ble_eq_true rfl) (k := k_G_from) rfl (L := [.ref x, .retAddr 0, .retAddr 0]) rfl ?_
  refine vm_r_iconst (kI := nI 0) rfl ?_
  refine vm_r_istore_n1 rfl rfl rfl ?_
  refine vm_r_iconst (kI := nI 0) rfl ?_
  refine vm_r_istore_n2 rfl rfl rfl ?_
  refine vm_up (P := fun j => vm_W E (vm_Ex E 2) k_G_from _ (4, [.ref x, .int (nI (vmask (fun g => decide (vmi z g = 0)) j)), .int (nI j)], [], 0, 0, μ)) (N := tG (zT z)) ?_ ?_ 0 (by omega)
  · refine vm_r_iload_n rfl rfl rfl ?_
    refine vm_r_aload_n rfl rfl rfl ?_
    refine vm_r_getR rfl (h.r1) ?_
    refine vm_r_getI rfl (h.t.gG) ?_
    first | refine vm_r_icmp_geN rfl (by omega) (by omega) (fun _ => ?_) (fun hn => absurd hn (by omega)) | refine vm_r_icmp_ge rfl (fun _ => ?_) (fun hn => absurd hn (by omega))
    refine vm_r_iload_n rfl rfl rfl ?_
    refine vm_r_ret rfl (fun h => by cases h) (vPG.pure h rfl)
  · intro j hj ih
    rw [vmask_s, ← Nat.one_mul (2 ^ j)] at ih
    have hA := (h.t.ok.A hj).1
    have hm : vmi z j ≤ wM (zW z) := vmis_le _ _ _
    have hM := h.w.ok.2.1
    refine vm_r_iload_n rfl rfl rfl ?_
    refine vm_r_aload_n rfl rfl rfl ?_
    refine vm_r_getR rfl (h.r1) ?_
    refine vm_r_getI rfl (h.t.gG) ?_
    first | refine vm_r_icmp_geN rfl (by omega) (by omega) (fun hn => absurd hn (by omega)) (fun _ => ?_) | refine vm_r_icmp_ge rfl (fun hn => absurd hn (by omega)) (fun _ => ?_)
    refine vm_r_aload_n rfl rfl rfl ?_
    refine vm_r_getR rfl (h.r5) ?_
    refine vm_r_aload_n rfl rfl rfl ?_
    refine vm_r_getR rfl (h.r1) ?_
    refine vm_r_getR rfl (h.t.s.rA) ?_
    refine vm_r_iload_n rfl rfl rfl ?_
    refine vm_r_iaload rfl (h.t.s.sA) (by omega) (by omega) (h.t.vA hj) ?_
    refine vm_r_cv2I rfl (by decide) (h.w.ob) (Nat.le_of_ble_eq_true rfl) (vm_Ex_le (by first | exact Nat.le_of_ble_eq_true rfl | omega) (c_WI_misses h.w (by omega))) ?_
    show vm_W E (vm_Ex E 2) k_G_from _ (31, _, [.int (nI (vmi z j))], 0, 0, μ)
    first | refine vm_r_if_neB rfl (fun e => ?_) (fun e => ?_) | refine vm_r_if_neN rfl (by omega) (fun e => ?_) (fun e => ?_) | refine vm_r_if_ne rfl (fun e => ?_) (fun e => ?_)
    · rw [if_neg (by simp only [decide_eq_true_eq]; omega)] at ih
      first | refine vm_r_iinc2N (y := 1) rfl rfl ?_ | refine vm_r_iinc2 rfl rfl ?_
      refine vm_r_goto rfl ?_
      exact ih
    · rw [if_pos (by simp only [decide_eq_true_eq]; omega)] at ih
      refine vm_r_iload_n rfl rfl rfl ?_
      refine vm_r_iconst (kI := nI 1) rfl ?_
      refine vm_r_iload_n rfl rfl rfl ?_
      refine vm_r_ishlN rfl (by omega) (v_p32 j (by omega)) ?_
      first | refine vm_r_iorN rfl ?_ | refine vm_r_ior rfl ?_
      refine vm_r_istore_n1 rfl rfl rfl ?_
      first | refine vm_r_iinc2N (y := 1) rfl rfl ?_ | refine vm_r_iinc2 rfl rfl ?_
      refine vm_r_goto rfl ?_
      exact ih
theorem c_G_nearest (h : vXS μ x z) (w : Int32) : vm_Ex E 3 n_G_nearest [.ref x, .int w] 0 0 μ (vPG μ x (o_nearest z w)) := by
  have hG := h.t.ok.G5
  refine vm_start (D := 2) (by decide) rfl (Nat.le_of_ble_eq_true rfl) (k := k_G_nearest) rfl (L := [.ref x, .int w, .retAddr 0, .retAddr 0, .retAddr 0, .retAddr 0]) rfl ?_
  refine vm_r_iload_n rfl rfl rfl ?_
  refine vm_r_iconst (kI := nI 0) rfl ?_
  refine vm_r_iconst (kI := nI 1) rfl ?_
  refine vm_r_cs3I rfl (by decide) (Nat.le_of_ble_eq_true rfl) (vm_Ex_le (by first | exact Nat.le_of_ble_eq_true rfl | omega) (c_G_within _ _ _)) ?_
  first | refine vm_r_if_neB rfl (fun hw => ?_) (fun hw => ?_) | refine vm_r_if_neN rfl (by omega) (fun hw => ?_) (fun hw => ?_) | refine vm_r_if_ne rfl (fun hw => ?_) (fun hw => ?_)
  · obtain ⟨k, hk, rfl⟩ := vrg_n (by decide) hw
    refine vm_r_iconst (kI := nI 0) rfl ?_
    refine vm_r_istore_n2 rfl rfl rfl ?_
    refine vm_r_bipush (kI := nI 9) rfl ?_
    refine vm_r_istore_n3 rfl rfl rfl ?_
    refine vm_r_iconst (kI := nI 0) rfl ?_
    refine vm_r_istore4 rfl rfl ?_
    refine vm_up (P := fun j => ∀ v : Value, vm_W E (vm_Ex E 2) k_G_nearest _ (19, [.ref x, .int (nI k), .int (nI (vne z j).1), .int (nI (vne z j).2), .int (nI j), v], [], 0, 0, μ)) (N := tG (zT z)) ?_ ?_ 0 (by omega) (.retAddr 0)
    · intro v
      refine vm_r_iload rfl rfl ?_
      refine vm_r_aload_n rfl rfl rfl ?_
      refine vm_r_getR rfl (h.r1) ?_
      refine vm_r_getI rfl (h.t.gG) ?_
      first | refine vm_r_icmp_geN rfl (by omega) (by omega) (fun _ => ?_) (fun hn => absurd hn (by omega)) | refine vm_r_icmp_ge rfl (fun _ => ?_) (fun hn => absurd hn (by omega))
      refine vm_r_iload_n rfl rfl rfl ?_
      first | refine vm_r_if_neB rfl (fun e => ?_) (fun e => ?_) | refine vm_r_if_neN rfl (by omega) (fun e => ?_) (fun e => ?_) | refine vm_r_if_ne rfl (fun e => ?_) (fun e => ?_)
      · refine vm_r_iload_n rfl rfl rfl ?_
        refine vm_r_ret rfl (fun h => by cases h) (vPG.pure h (by rw [if_pos (show vrg _ _ from hw), nn_nI (by omega), if_neg (by omega)]))
      · refine vm_r_iload_n rfl rfl rfl ?_
        refine vm_r_goto rfl ?_
        refine vm_r_ret rfl (fun h => by cases h) (vPG.pure h (by rw [if_pos (show vrg _ _ from hw), nn_nI (by omega), if_pos (by omega)]))
    · intro j hj ih v
      rw [vne_s] at ih
      have hA := (h.t.ok.A hj).1
      have hm : vmi z j ≤ wM (zW z) := vmis_le _ _ _
      have hM := h.w.ok.2.1
      have hn : (vne z j).2 ≤ 9 := vne_le z j
      refine vm_r_iload rfl rfl ?_
      refine vm_r_aload_n rfl rfl rfl ?_
      refine vm_r_getR rfl (h.r1) ?_
      refine vm_r_getI rfl (h.t.gG) ?_
      first | refine vm_r_icmp_geN rfl (by omega) (by omega) (fun hn => absurd hn (by omega)) (fun _ => ?_) | refine vm_r_icmp_ge rfl (fun hn => absurd hn (by omega)) (fun _ => ?_)
      refine vm_r_aload_n rfl rfl rfl ?_
      refine vm_r_getR rfl (h.r5) ?_
      refine vm_r_aload_n rfl rfl rfl ?_
      refine vm_r_getR rfl (h.r1) ?_
      refine vm_r_getR rfl (h.t.s.rA) ?_
      refine vm_r_iload rfl rfl ?_
      refine vm_r_iaload rfl (h.t.s.sA) (by omega) (by omega) (h.t.vA hj) ?_
      refine vm_r_cv2I rfl (by decide) (h.w.ob) (Nat.le_of_ble_eq_true rfl) (vm_Ex_le (by first | exact Nat.le_of_ble_eq_true rfl | omega) (c_WI_misses h.w (by omega))) ?_
      show vm_W E (vm_Ex E 2) k_G_nearest _ (48, _, [.int (nI (vmi z j))], 0, 0, μ)
      refine vm_r_istore5 rfl rfl ?_
      refine vm_r_iload rfl rfl ?_
      refine vm_r_iload_n rfl rfl rfl ?_
      first | refine vm_r_icmp_geN rfl (by omega) (by omega) (fun e => ?_) (fun e => ?_) | refine vm_r_icmp_ge rfl (fun e => ?_) (fun e => ?_)
      · rw [if_neg (by omega)] at ih
        first | refine vm_r_iinc4N (y := 1) rfl rfl ?_ | refine vm_r_iinc4 rfl rfl ?_
        refine vm_r_goto rfl ?_
        exact ih _
      · rw [if_pos (by omega)] at ih
        refine vm_r_iload rfl rfl ?_
        refine vm_r_istore_n2 rfl rfl rfl ?_
        refine vm_r_iload rfl rfl ?_
        refine vm_r_istore_n3 rfl rfl rfl ?_
        first | refine vm_r_iinc4N (y := 1) rfl rfl ?_ | refine vm_r_iinc4 rfl rfl ?_
        refine vm_r_goto rfl ?_
        exact ih _
  · refine vm_r_iconst rfl ?_
    refine vm_r_ret rfl (fun h => by cases h) (vPG.pure h (by rw [if_neg (show ¬ vrg w 1 from hw)]))
theorem c_G_forget (h : vXS μ x z) : vm_Ex E 2 n_G_forget [.ref x] 0 0 μ (vPG μ x (o_forget z)) := by
  refine vm_start (D := 1) (by decide) rfl (Nat.le_of_ble_eq_true rfl) (k := k_G_forget) rfl (L := [.ref x, .retAddr 0]) rfl ?_
  refine vm_r_aload_n rfl rfl rfl ?_
  refine vm_r_getR rfl (h.r5) ?_
  refine vm_r_getI rfl (h.w.gN) ?_
  refine vm_r_aload_n rfl rfl rfl ?_
  refine vm_r_getR rfl (h.r5) ?_
  refine vm_r_getI rfl (h.w.gM) ?_
  first | refine vm_r_iaddN rfl ?_ | refine vm_r_iadd rfl ?_
  refine vm_r_istore_n1 rfl rfl rfl ?_
  refine vm_r_aload_n rfl rfl rfl ?_
  refine vm_r_getR rfl (h.r5) ?_
  refine vm_r_cv1V rfl (by decide) (h.w.ob) (Nat.le_of_ble_eq_true rfl) (vm_Ex_le (by first | exact Nat.le_of_ble_eq_true rfl | omega) (c_WI_clear h.w)) (fun μ1 q1 => ?_)
  obtain ⟨f1, w1⟩ := q1
  refine vm_r_iload_n rfl rfl rfl ?_
  refine vm_r_ret rfl (fun h => by cases h) (⟨_, rfl, rfl, f1.x.wd (by omega) (by omega), h.wit (f1.x.wd (by omega) (by omega)) w1⟩)
theorem c_G_kinds (h : vXS μ x z) (hi : v_inv z) (g : Int32) : vm_Ex E 5 n_G_kinds [.ref x, .int g] 0 0 μ (vPG μ x (o_kinds z g)) := by
  have hG := h.t.ok.G5
  refine vm_start (D := 4) (by decide) rfl (Nat.le_of_ble_eq_true rfl) (k := k_G_kinds) rfl (L := [.ref x, .int g, .retAddr 0, .retAddr 0]) rfl ?_
  refine vm_r_aload_n rfl rfl rfl ?_
  refine vm_r_getR rfl (h.r1) ?_
  refine vm_r_iload_n rfl rfl rfl ?_
  refine vm_r_cv2I rfl (by decide) (h.t.s.ob) (Nat.le_of_ble_eq_true rfl) (vm_Ex_le (by first | exact Nat.le_of_ble_eq_true rfl | omega) (c_TN_isGate h.t g)) ?_
  first | refine vm_r_if_neB rfl (fun hg => ?_) (fun hg => ?_) | refine vm_r_if_neN rfl (by omega) (fun hg => ?_) (fun hg => ?_) | refine vm_r_if_ne rfl (fun hg => ?_) (fun hg => ?_)
  · obtain ⟨i, hi', rfl⟩ := vix_n (by omega) hg
    refine vm_r_iconst (kI := nI 0) rfl ?_
    refine vm_r_istore_n2 rfl rfl rfl ?_
    refine vm_r_iconst (kI := nI 0) rfl ?_
    refine vm_r_istore_n3 rfl rfl rfl ?_
    refine vm_up (P := fun j => vm_W E (vm_Ex E 4) k_G_kinds _ (17, [.ref x, .int (nI i), .int (nI (vmask (fun kd => vfit (zW z) (zT z) i kd (tE (zT z) i) (wN (zW z))) j)), .int (nI j)], [], 0, 0, μ)) (N := 4) ?_ ?_ 0 (by omega)
    · refine vm_r_iload_n rfl rfl rfl ?_
      refine vm_r_iconst (kI := nI 3) rfl ?_
      first | refine vm_r_icmp_gtN rfl (by omega) (by omega) (fun _ => ?_) (fun hn => absurd hn (by omega)) | refine vm_r_icmp_gt rfl (fun _ => ?_) (fun hn => absurd hn (by omega))
      refine vm_r_iload_n rfl rfl rfl ?_
      refine vm_r_ret rfl (fun h => by cases h) (vPG.pure h (by rw [if_pos (show vix _ _ from hg), nn_nI (by omega)]))
    · intro j hj ih
      rw [vmask_s, ← Nat.one_mul (2 ^ j)] at ih
      refine vm_r_iload_n rfl rfl rfl ?_
      refine vm_r_iconst (kI := nI 3) rfl ?_
      first | refine vm_r_icmp_gtN rfl (by omega) (by omega) (fun hn => absurd hn (by omega)) (fun _ => ?_) | refine vm_r_icmp_gt rfl (fun hn => absurd hn (by omega)) (fun _ => ?_)
      refine vm_r_aload_n rfl rfl rfl ?_
      refine vm_r_getR rfl (h.r5) ?_
      refine vm_r_aload_n rfl rfl rfl ?_
      refine vm_r_getR rfl (h.r1) ?_
      refine vm_r_iload_n rfl rfl rfl ?_
      refine vm_r_iload_n rfl rfl rfl ?_
      refine vm_r_aload_n rfl rfl rfl ?_
      refine vm_r_getR rfl (h.r1) ?_
      refine vm_r_getR rfl (h.t.s.rE) ?_
      refine vm_r_iload_n rfl rfl rfl ?_
      refine vm_r_iaload rfl (h.t.s.sE) (by omega) (by omega) (h.t.vE hi') ?_
      refine vm_r_cv5I rfl (by decide) (h.w.ob) (Nat.le_of_ble_eq_true rfl) (vm_Ex_le (by first | exact Nat.le_of_ble_eq_true rfl | omega) (c_WI_fits h.w h.t hi.2.2.2 hi' hj (h.t.ok.E40 hi'))) ?_
      first | refine vm_r_if_eqB rfl (fun e => ?_) (fun e => ?_) | refine vm_r_if_eqN rfl (by omega) (fun e => ?_) (fun e => ?_) | refine vm_r_if_eq rfl (fun e => ?_) (fun e => ?_)
      · rw [if_neg e] at ih
        first | refine vm_r_iinc3N (y := 1) rfl rfl ?_ | refine vm_r_iinc3 rfl rfl ?_
        refine vm_r_goto rfl ?_
        exact ih
      · rw [if_pos e] at ih
        refine vm_r_iload_n rfl rfl rfl ?_
        refine vm_r_iconst (kI := nI 1) rfl ?_
        refine vm_r_iload_n rfl rfl rfl ?_
        refine vm_r_ishlN rfl (by omega) (v_p32 j (by omega)) ?_
        first | refine vm_r_iorN rfl ?_ | refine vm_r_ior rfl ?_
        refine vm_r_istore_n2 rfl rfl rfl ?_
        first | refine vm_r_iinc3N (y := 1) rfl rfl ?_ | refine vm_r_iinc3 rfl rfl ?_
        refine vm_r_goto rfl ?_
        exact ih
  · refine vm_r_iconst rfl ?_
    refine vm_r_ret rfl (fun h => by cases h) (vPG.pure h (by rw [if_neg hg]))
theorem c_G_ears (h : vXS μ x z) (hi : v_inv z) (g w : Int32) : vm_Ex E 5 n_G_ears [.ref x, .int g, .int w] 0 0 μ (vPG μ x (o_ears z g w)) := by
  have hG := h.t.ok.G5
  refine vm_start (D := 4) (by decide) rfl (Nat.le_of_ble_eq_true rfl) (k := k_G_ears) rfl (L := [.ref x, .int g, .int w, .retAddr 0, .retAddr 0, .retAddr 0]) rfl ?_
  refine vm_r_aload_n rfl rfl rfl ?_
  refine vm_r_getR rfl (h.r1) ?_
  refine vm_r_iload_n rfl rfl rfl ?_
  refine vm_r_cv2I rfl (by decide) (h.t.s.ob) (Nat.le_of_ble_eq_true rfl) (vm_Ex_le (by first | exact Nat.le_of_ble_eq_true rfl | omega) (c_TN_isGate h.t g)) ?_
  first | refine vm_r_if_eqB rfl (fun hg => ?_) (fun hg => ?_) | refine vm_r_if_eqN rfl (by omega) (fun hg => ?_) (fun hg => ?_) | refine vm_r_if_eq rfl (fun hg => ?_) (fun hg => ?_)
  · refine vm_r_iconst rfl ?_
    refine vm_r_ret rfl (fun h => by cases h) (vPG.pure h (by rw [if_neg (fun y => hg y.1)]))
  · refine vm_r_iload_n rfl rfl rfl ?_
    refine vm_r_iconst (kI := nI 0) rfl ?_
    refine vm_r_iconst (kI := nI 1) rfl ?_
    refine vm_r_cs3I rfl (by decide) (Nat.le_of_ble_eq_true rfl) (vm_Ex_le (by first | exact Nat.le_of_ble_eq_true rfl | omega) (c_G_within _ _ _)) ?_
    first | refine vm_r_if_neB rfl (fun hw => ?_) (fun hw => ?_) | refine vm_r_if_neN rfl (by omega) (fun hw => ?_) (fun hw => ?_) | refine vm_r_if_ne rfl (fun hw => ?_) (fun hw => ?_)
    · have hv : vix g (tG (zT z)) ∧ vrg w 1 := ⟨hg, hw⟩
      obtain ⟨i, hi', rfl⟩ := vix_n (by omega) hg
      obtain ⟨k, hk, rfl⟩ := vrg_n (by decide) hw
      refine vm_r_iconst (kI := nI 0) rfl ?_
      refine vm_r_istore_n3 rfl rfl rfl ?_
      refine vm_r_bipush rfl ?_
      refine vm_r_istore4 rfl rfl ?_
      refine vm_r_bipush (kI := nI 40) rfl ?_
      refine vm_r_istore5 rfl rfl ?_
      refine vm_up (P := fun j => vm_W E (vm_Ex E 4) k_G_ears _ (32, [.ref x, .int (nI i), .int (nI k), .int (nI (vec z i j).1), .int (vec z i j).2, .int (v_dn j)], [], 0, 0, μ)) (N := 41) ?_ ?_ 0 (by omega)
      · refine vm_r_iload rfl rfl ?_
        refine vm_r_if_lt rfl (fun _ => ?_) (fun hn => absurd hn ((by decide)))
        refine vm_r_iload_n rfl rfl rfl ?_
        first | refine vm_r_if_neB rfl (fun e => ?_) (fun e => ?_) | refine vm_r_if_neN rfl (by omega) (fun e => ?_) (fun e => ?_) | refine vm_r_if_ne rfl (fun e => ?_) (fun e => ?_)
        · refine vm_r_iload rfl rfl ?_
          refine vm_r_ret rfl (fun h => by cases h) (vPG.pure h (by rw [if_pos hv, nn_nI (by omega), nn_nI (by omega), if_neg (by omega)]))
        · refine vm_r_iload_n rfl rfl rfl ?_
          refine vm_r_goto rfl ?_
          refine vm_r_ret rfl (fun h => by cases h) (vPG.pure h (by rw [if_pos hv, nn_nI (by omega), nn_nI (by omega), if_pos (by omega)]))
      · intro j hj ih
        have e1 : v_dn j = nI (40 - j) := if_neg (by omega)
        have hK := h.t.ok.K4 hi'
        rw [vec_s, ← v_dn_s j hj] at ih
        rw [e1]
        refine vm_r_iload rfl rfl ?_
        refine vm_r_if_ltN rfl (by omega) ?_
        refine vm_r_aload_n rfl rfl rfl ?_
        refine vm_r_getR rfl (h.r5) ?_
        refine vm_r_aload_n rfl rfl rfl ?_
        refine vm_r_getR rfl (h.r1) ?_
        refine vm_r_iload_n rfl rfl rfl ?_
        refine vm_r_aload_n rfl rfl rfl ?_
        refine vm_r_getR rfl (h.r1) ?_
        refine vm_r_getR rfl (h.t.s.rK) ?_
        refine vm_r_iload_n rfl rfl rfl ?_
        refine vm_r_iaload rfl (h.t.s.sK) (by omega) (by omega) (h.t.vK hi') ?_
        refine vm_r_iload rfl rfl ?_
        refine vm_r_cv5I rfl (by decide) (h.w.ob) (Nat.le_of_ble_eq_true rfl) (vm_Ex_le (by first | exact Nat.le_of_ble_eq_true rfl | omega) (c_WI_fits h.w h.t hi.2.2.2 hi' hK (by omega))) ?_
        first | refine vm_r_if_eqB rfl (fun e => ?_) (fun e => ?_) | refine vm_r_if_eqN rfl (by omega) (fun e => ?_) (fun e => ?_) | refine vm_r_if_eq rfl (fun e => ?_) (fun e => ?_)
        · rw [if_neg (show ¬ vear z i (40 - j) = true from e)] at ih
          refine vm_r_iinc5 rfl rfl ?_
          refine vm_r_goto rfl ?_
          exact ih
        · rw [if_pos (show vear z i (40 - j) = true from e)] at ih
          first | refine vm_r_iinc3N (y := 1) rfl rfl ?_ | refine vm_r_iinc3 rfl rfl ?_
          refine vm_r_iload rfl rfl ?_
          refine vm_r_istore4 rfl rfl ?_
          refine vm_r_iinc5 rfl rfl ?_
          refine vm_r_goto rfl ?_
          exact ih
    · refine vm_r_iconst rfl ?_
      refine vm_r_ret rfl (fun h => by cases h) (vPG.pure h (by rw [if_neg (fun y => hw y.2)]))
theorem c_G_keep (h : vXS μ x z) : vm_Ex E 4 n_G_keep [.ref x] 0 0 μ (vPG μ x (o_keep z)) := by
  obtain ⟨fk, hk0⟩ := h.2.2.2.2.2.1
  have hh := hk0.2.1.2.2
  unfold o_keep
  refine vm_start (D := 3) (by decide) rfl (Nat.le_of_ble_eq_true rfl) (k := k_G_keep) rfl (L := [.ref x]) rfl ?_
  refine vm_r_aload_n rfl rfl rfl ?_
  refine vm_r_getR rfl (h.r4) ?_
  refine vm_r_getI rfl (hk0.gH) ?_
  refine vm_r_iconst (kI := nI 2) rfl ?_
  first | refine vm_r_icmp_ltN rfl (by omega) (by omega) (fun e => ?_) (fun e => ?_) | refine vm_r_icmp_lt rfl (fun e => ?_) (fun e => ?_)
  · rw [if_pos e]
    refine vm_r_aload_n rfl rfl rfl ?_
    refine vm_r_getR rfl (h.r4) ?_
    refine vm_r_aload_n rfl rfl rfl ?_
    refine vm_r_getR rfl (h.r1) ?_
    refine vm_r_cv2V rfl (by decide) (hk0.ob) (Nat.le_of_ble_eq_true rfl) (vm_Ex_le (by first | exact Nat.le_of_ble_eq_true rfl | omega) (c_SH_put hk0 h.t (by omega))) (fun μ1 q1 => ?_)
    obtain ⟨x1, f', a1⟩ := q1
    unfold vput vpuh at a1
    rw [if_pos e, if_pos e] at a1
    have h1 := h.kpt (x1.wd (by omega) (by omega)) a1
    refine vm_r_aload_n rfl rfl rfl ?_
    refine vm_r_getR rfl (h1.r4) ?_
    refine vm_r_getI rfl (a1.gH) ?_
    refine vm_r_ret rfl (fun h => by cases h) (⟨_, rfl, rfl, x1.wd (by omega) (by omega), h1⟩)
  · rw [if_neg (by omega)]
    refine vm_r_bipush rfl ?_
    refine vm_r_ret rfl (fun h => by cases h) (vPG.pure h rfl)
theorem c_G_back (h : vXS μ x z) : vm_Ex E 3 n_G_back [.ref x] 0 0 μ (vPG μ x (o_back z)) := by
  obtain ⟨fk, hk0⟩ := h.2.2.2.2.2.1
  unfold o_back
  refine vm_start (D := 2) (by decide) rfl (Nat.le_of_ble_eq_true rfl) (k := k_G_back) rfl (L := [.ref x]) rfl ?_
  refine vm_r_aload_n rfl rfl rfl ?_
  refine vm_r_getR rfl (h.r4) ?_
  refine vm_r_aload_n rfl rfl rfl ?_
  refine vm_r_getR rfl (h.r1) ?_
  refine vm_r_cv2X rfl (by decide) (hk0.ob) (Nat.le_of_ble_eq_true rfl) (vm_Ex_le (by first | exact Nat.le_of_ble_eq_true rfl | omega) (c_SH_takeInto hk0 h.t.s (by omega))) (fun v1 μ1 q1 => ?_)
  rcases q1 with ⟨e, rfl, rfl⟩ | ⟨e, rfl, ⟨μ2, f1, t1, f2⟩, a1⟩
  · rw [if_neg (by omega)]
    refine vm_r_if_ne rfl (fun hn => absurd hn ((by decide))) (fun _ => ?_)
    refine vm_r_bipush rfl ?_
    refine vm_r_ret rfl (fun h => by cases h) (vPG.pure h rfl)
  · rw [if_pos e]
    have h1 := (h.twn (f1.x.wd (by omega) (by omega)) t1)
    have h2 := h1.kpt (f2.wd (by omega) (by omega)) a1
    obtain ⟨fp, hp2⟩ := h2.2.2.2.2.1
    refine vm_r_if_ne rfl (fun _ => ?_) (fun hn => absurd hn ((by decide)))
    refine vm_r_aload_n rfl rfl rfl ?_
    refine vm_r_getR rfl (h2.r3) ?_
    refine vm_r_cv1V rfl (by decide) (hp2.ob) (Nat.le_of_ble_eq_true rfl) (vm_Ex_le (by first | exact Nat.le_of_ble_eq_true rfl | omega) (c_SH_clear hp2)) (fun μ3 q3 => ?_)
    obtain ⟨f3, a3⟩ := q3
    have h3 := h2.pst (f3.x.wd (by omega) (by omega)) a3
    obtain ⟨fk3, hk3⟩ := h3.2.2.2.2.2.1
    refine vm_r_aload_n rfl rfl rfl ?_
    refine vm_r_getR rfl (h3.r4) ?_
    refine vm_r_getI rfl (hk3.gH) ?_
    refine vm_r_ret rfl (fun h => by cases h) (⟨_, rfl, rfl, ((f1.x.wd (by omega) (by omega)).tr (f2.wd (by omega) (by omega))).tr (f3.x.wd (by omega) (by omega)), h3⟩)
end API3
