/-! The model: the text's letters, what was seen and heard, counts. -/
section MAPI3
variable {E : vm_V} {μ μ' : vm_M} {m : Nat} {z : vZ} {T : vt_T}
theorem c_M_wipe (h : vM μ m z) : vm_Ex E 1 n_M_wipe [.ref m] 0 0 μ (vPM μ m (o_wipe z)) := by
  obtain ⟨h0, ha, hb, hc, hd, he, hf, hg⟩ := h
  refine vm_start (D := 0) (by decide) rfl (Nat.le_of_ble_eq_true rfl) (k := k_M_wipe) rfl (L := [.ref m, .retAddr 0]) rfl ?_
  have g : ∀ o, o ≠ m → (vm_mI μ m 0 (nI 0)).2.1 o = μ.2.1 o := fun o o1 => rI_no2 o1
  have gm : ∀ k, k ≠ 0 → (vm_mI μ m 0 (nI 0)).2.1 m k = μ.2.1 m k := fun k o1 => rI_nk o1
  refine vm_r_aload_n rfl rfl rfl ?_
  refine vm_r_getI rfl (h0.g0 ha.1) ?_
  refine vm_r_istore_n1 rfl rfl rfl ?_
  refine vm_r_aload_n rfl rfl rfl ?_
  refine vm_r_iconst (kI := nI 0) rfl ?_
  refine vm_r_putI rfl (h0.w0) ?_
  refine vm_r_iload_n rfl rfl rfl ?_
  refine vm_r_ret rfl (fun h => by cases h) (⟨_, rfl, rfl, (vf.mI (Nat.le_refl m) (by omega) : vf _ _ m (m + 15)).x, h0, vMI.mk ⟨rI_eq, ?_⟩ ?_ ?_ ?_ ?_ ?_ ?_⟩)
  · intro j hj
    have hj : j < 0 := hj
    omega
  · rw [g _ (by omega)]; exact hb
  · rw [g _ (by omega)]; exact hc
  · rw [gm 8 (by omega), g _ (by omega)]; exact hd
  · rw [gm 10 (by omega), g _ (by omega)]; exact he
  · rw [gm 12 (by omega), g _ (by omega)]; exact hf
  · rw [gm 14 (by omega), g _ (by omega)]; exact hg
theorem c_M_write (h : vM μ m z) (k : vOk z) (c : Int32) : vm_Ex E 2 n_M_write [.ref m, .int c] 0 0 μ (vPM μ m (o_write z c)) := by
  have hn := k.2.2.1.1
  unfold o_write
  refine vm_start (D := 1) (by decide) rfl (Nat.le_of_ble_eq_true rfl) (k := k_M_write) rfl (L := [.ref m, .int c]) rfl ?_
  refine vm_r_iload_n rfl rfl rfl ?_
  refine vm_r_i2l rfl ?_
  refine vm_r_ldc2_w (kL := lN 32) rfl ?_
  refine vm_r_ldc2_w (kL := lN 126) rfl ?_
  refine vm_r_cs3I rfl (by decide) (Nat.le_of_ble_eq_true rfl) (vm_Ex_le (by first | exact Nat.le_of_ble_eq_true rfl | omega) (c_M_in (x := c) (lo := nI 32) (hi := nI 126) rfl (by decide) (by decide))) ?_
  first | refine vm_r_if_neB rfl (fun hc => ?_) (fun hc => ?_) | refine vm_r_if_neN rfl (by omega) (fun hc => ?_) (fun hc => ?_) | refine vm_r_if_ne rfl (fun hc => ?_) (fun hc => ?_)
  · rw [if_pos (show 32 ≤ c ∧ c ≤ 126 from hc)]
    obtain ⟨j, hj, rfl⟩ : ∃ j, j ≤ 126 ∧ c = nI j := by
      have h0 : ¬ c < 0 := Int32.not_lt.mpr (Int32.le_trans (show (0 : Int32) ≤ nI 32 by decide) hc.1)
      obtain ⟨j, h1, rfl⟩ := nI_of h0
      exact ⟨j, (nI_leI h1 (by decide)).mp hc.2, rfl⟩
    rw [nn_nI (by omega)]
    refine vm_r_aload_n rfl rfl rfl ?_
    refine vm_r_getI rfl (h.1.g0 h.2.1.1) ?_
    refine vm_r_sipush (kI := nI 200) rfl ?_
    first | refine vm_r_icmp_neN rfl (by omega) (by omega) (fun e => ?_) (fun e => ?_) | refine vm_r_icmp_ne rfl (fun e => ?_) (fun e => ?_)
    · rw [if_pos (by omega)]
      obtain ⟨h0, ha, hb, hc, hd, he, hf, hg⟩ := h
      have h1 : vMh (vm_mI μ (m + 1) (zn z) (nI j)).1 m := h0
      have e1 : (vm_mI μ (m + 1) (zn z) (nI j)).2.1 m 0 = nI (zn z) := by rw [rI_no (by omega)]; exact ha.1
      have h2 : vMh (vm_mI (vm_mI μ (m + 1) (zn z) (nI j)) m 0 (nI (zn z + 1))).1 m := h0
      have g : ∀ o, o ≠ m → o ≠ m + 1 → (vm_mI (vm_mI μ (m + 1) (zn z) (nI j)) m 0 (nI (zn z + 1))).2.1 o = μ.2.1 o := fun o o1 o2 => by rw [rI_no2 o1, rI_no2 o2]
      have gm : ∀ k, k ≠ 0 → (vm_mI (vm_mI μ (m + 1) (zn z) (nI j)) m 0 (nI (zn z + 1))).2.1 m k = μ.2.1 m k := fun k o1 => by rw [rI_nk o1, rI_no2 (by omega)]
      refine vm_r_aload_n rfl rfl rfl ?_
      refine vm_r_getR rfl (h0.r1) ?_
      refine vm_r_aload_n rfl rfl rfl ?_
      refine vm_r_getI rfl (h0.g0 ha.1) ?_
      refine vm_r_iload_n rfl rfl rfl ?_
      refine vm_r_iastore rfl (h0.s1) (by omega) (by omega) ?_
      refine vm_r_aload_n rfl rfl rfl ?_
      refine vm_r_dup rfl rfl ?_
      refine vm_r_getI rfl (h1.g0 e1) ?_
      refine vm_r_iconst (kI := nI 1) rfl ?_
      first | refine vm_r_iaddN rfl ?_ | refine vm_r_iadd rfl ?_
      refine vm_r_putI rfl (h1.w0) ?_
      refine vm_r_aload_n rfl rfl rfl ?_
      refine vm_r_getI rfl (h2.g0 rI_eq) ?_
      refine vm_r_ret rfl (fun h => by cases h) (⟨_, rfl, rfl, ?_, h2, vMI.mk ⟨rI_eq, ?_⟩ ?_ ?_ ?_ ?_ ?_ ?_⟩)
      · exact ((vf.mI (by omega) (by omega) : vf _ _ m (m + 15)).tr (vf.mI (Nat.le_refl m) (by omega))).x
      · intro i hi
        have hi : i < zn z + 1 := hi
        show _ = nI (vu (zx z) (zn z) j i)
        rw [rI_no (by omega)]
        exact rI_u rfl (fun q => ha.2 i (by omega))
      · rw [g _ (by omega) (by omega)]; exact hb
      · rw [g _ (by omega) (by omega)]; exact hc
      · rw [gm 8 (by omega), g _ (by omega) (by omega)]; exact hd
      · rw [gm 10 (by omega), g _ (by omega) (by omega)]; exact he
      · rw [gm 12 (by omega), g _ (by omega) (by omega)]; exact hf
      · rw [gm 14 (by omega), g _ (by omega) (by omega)]; exact hg
    · rw [if_neg (by omega)]
      refine vm_r_bipush rfl ?_
      refine vm_r_ret rfl (fun h => by cases h) (vPM.pure h rfl)
  · rw [if_neg (show ¬ (32 ≤ c ∧ c ≤ 126) from hc)]
    refine vm_r_iconst rfl ?_
    refine vm_r_ret rfl (fun h => by cases h) (vPM.pure h rfl)
theorem c_M_seen (h : vM μ m z) (k : vOk z) (p g i : Int32) : vm_Ex E 3 n_M_seen [.ref m, .int p, .int g, .int i] 0 0 μ (vPM μ m (o_seen z p g i)) := by
  have hG := k.1.1
  have hP := k.1.2.1
  have hW := k.2.1.1
  unfold o_seen
  refine vm_start (D := 2) (by decide) rfl (Nat.le_of_ble_eq_true rfl) (k := k_M_seen) rfl (L := [.ref m, .int p, .int g, .int i]) rfl ?_
  refine vm_r_aload_n rfl rfl rfl ?_
  refine vm_r_iload_n rfl rfl rfl ?_
  refine vm_r_cv2I rfl (by decide) (h.1.ob) (Nat.le_of_ble_eq_true rfl) (vm_Ex_le (by first | exact Nat.le_of_ble_eq_true rfl | omega) (c_M_isPerson h hP p)) ?_
  first | refine vm_r_if_eqB rfl (fun hp => ?_) (fun hp => ?_) | refine vm_r_if_eqN rfl (by omega) (fun hp => ?_) (fun hp => ?_) | refine vm_r_if_eq rfl (fun hp => ?_) (fun hp => ?_)
  · rw [if_neg (fun y => hp y.1)]
    refine vm_r_iconst rfl ?_
    refine vm_r_ret rfl (fun h => by cases h) (vPM.pure h rfl)
  · refine vm_r_aload_n rfl rfl rfl ?_
    refine vm_r_iload_n rfl rfl rfl ?_
    refine vm_r_cv2I rfl (by decide) (h.1.ob) (Nat.le_of_ble_eq_true rfl) (vm_Ex_le (by first | exact Nat.le_of_ble_eq_true rfl | omega) (c_M_isGate h hG g)) ?_
    first | refine vm_r_if_eqB rfl (fun hg => ?_) (fun hg => ?_) | refine vm_r_if_eqN rfl (by omega) (fun hg => ?_) (fun hg => ?_) | refine vm_r_if_eq rfl (fun hg => ?_) (fun hg => ?_)
    · rw [if_neg (fun y => hg y.2.1)]
      refine vm_r_iconst rfl ?_
      refine vm_r_ret rfl (fun h => by cases h) (vPM.pure h rfl)
    · refine vm_r_iload_n rfl rfl rfl ?_
      refine vm_r_i2l rfl ?_
      refine vm_r_lconst (kL := lN 0) rfl ?_
      refine vm_r_lconst (kL := lN 1) rfl ?_
      refine vm_r_cs3I rfl (by decide) (Nat.le_of_ble_eq_true rfl) (vm_Ex_le (by first | exact Nat.le_of_ble_eq_true rfl | omega) (c_M_in (x := i) (lo := nI 0) (hi := nI 1) rfl (by decide) (by decide))) ?_
      first | refine vm_r_if_neB rfl (fun hi => ?_) (fun hi => ?_) | refine vm_r_if_neN rfl (by omega) (fun hi => ?_) (fun hi => ?_) | refine vm_r_if_ne rfl (fun hi => ?_) (fun hi => ?_)
      · rw [if_pos (show vix _ _ ∧ vix _ _ ∧ vrg _ 1 from ⟨hp, hg, hi⟩)]
        obtain ⟨a, ha', rfl⟩ := vix_n (by omega) hp
        obtain ⟨b, hb', rfl⟩ := vix_n (by omega) hg
        obtain ⟨c, hc', rfl⟩ := vrg_n (by decide) hi
        rw [nn_nI (by omega), nn_nI (by omega), nn_nI (by omega)]
        refine vm_r_aload_n rfl rfl rfl ?_
        refine vm_r_getI rfl (h.1.g12 h.2.2.2.2.2.2.1.1) ?_
        refine vm_r_bipush (kI := nI 6) rfl ?_
        first | refine vm_r_icmp_neN rfl (by omega) (by omega) (fun e => ?_) (fun e => ?_) | refine vm_r_icmp_ne rfl (fun e => ?_) (fun e => ?_)
        · rw [if_pos (by omega)]
          obtain ⟨h0, ha, hb, hc, hd, he, hf, hg2⟩ := h
          have e1 : (vm_mI μ (m + 9) (3 * wN (zW z)) (nI a)).2.1 m 12 = nI (wN (zW z)) := by rw [rI_no (by omega)]; exact hf.1
          have e2 : (vm_mI (vm_mI μ (m + 9) (3 * wN (zW z)) (nI a)) (m + 9) (3 * wN (zW z) + 1) (nI b)).2.1 m 12 = nI (wN (zW z)) := by rw [rI_no (by omega)]; exact e1
          have e3 : (vm_mI (vm_mI (vm_mI μ (m + 9) (3 * wN (zW z)) (nI a)) (m + 9) (3 * wN (zW z) + 1) (nI b)) (m + 9) (3 * wN (zW z) + 2) (nI c)).2.1 m 12 = nI (wN (zW z)) := by rw [rI_no (by omega)]; exact e2
          have h1 : vMh (vm_mI μ (m + 9) (3 * wN (zW z)) (nI a)).1 m := h0
          have h2 : vMh (vm_mI (vm_mI μ (m + 9) (3 * wN (zW z)) (nI a)) (m + 9) (3 * wN (zW z) + 1) (nI b)).1 m := h0
          have h3 : vMh (vm_mI (vm_mI (vm_mI μ (m + 9) (3 * wN (zW z)) (nI a)) (m + 9) (3 * wN (zW z) + 1) (nI b)) (m + 9) (3 * wN (zW z) + 2) (nI c)).1 m := h0
          have h4 : vMh (vm_mI (vm_mI (vm_mI (vm_mI μ (m + 9) (3 * wN (zW z)) (nI a)) (m + 9) (3 * wN (zW z) + 1) (nI b)) (m + 9) (3 * wN (zW z) + 2) (nI c)) m 12 (nI (wN (zW z) + 1))).1 m := h0
          have g : ∀ o, o ≠ m → o ≠ m + 9 → (vm_mI (vm_mI (vm_mI (vm_mI μ (m + 9) (3 * wN (zW z)) (nI a)) (m + 9) (3 * wN (zW z) + 1) (nI b)) (m + 9) (3 * wN (zW z) + 2) (nI c)) m 12 (nI (wN (zW z) + 1))).2.1 o = μ.2.1 o := fun o o1 o2 => by rw [rI_no2 o1, rI_no2 o2, rI_no2 o2, rI_no2 o2]
          have gm : ∀ k, k ≠ 12 → (vm_mI (vm_mI (vm_mI (vm_mI μ (m + 9) (3 * wN (zW z)) (nI a)) (m + 9) (3 * wN (zW z) + 1) (nI b)) (m + 9) (3 * wN (zW z) + 2) (nI c)) m 12 (nI (wN (zW z) + 1))).2.1 m k = μ.2.1 m k := fun k o1 => by rw [rI_nk o1, rI_no2 (by omega), rI_no2 (by omega), rI_no2 (by omega)]
          refine vm_r_aload_n rfl rfl rfl ?_
          refine vm_r_getR rfl (h0.r9) ?_
          refine vm_r_iconst (kI := nI 3) rfl ?_
          refine vm_r_aload_n rfl rfl rfl ?_
          refine vm_r_getI rfl (h0.g12 hf.1) ?_
          first | refine vm_r_imulN rfl ?_ | refine vm_r_imul rfl ?_
          refine vm_r_iload_n rfl rfl rfl ?_
          refine vm_r_iastore rfl (h0.s9) (by omega) (by omega) ?_
          refine vm_r_aload_n rfl rfl rfl ?_
          refine vm_r_getR rfl (h1.r9) ?_
          refine vm_r_iconst (kI := nI 3) rfl ?_
          refine vm_r_aload_n rfl rfl rfl ?_
          refine vm_r_getI rfl (h1.g12 e1) ?_
          first | refine vm_r_imulN rfl ?_ | refine vm_r_imul rfl ?_
          refine vm_r_iconst (kI := nI 1) rfl ?_
          first | refine vm_r_iaddN rfl ?_ | refine vm_r_iadd rfl ?_
          refine vm_r_iload_n rfl rfl rfl ?_
          refine vm_r_iastore rfl (h1.s9) (by omega) (by omega) ?_
          refine vm_r_aload_n rfl rfl rfl ?_
          refine vm_r_getR rfl (h2.r9) ?_
          refine vm_r_iconst (kI := nI 3) rfl ?_
          refine vm_r_aload_n rfl rfl rfl ?_
          refine vm_r_getI rfl (h2.g12 e2) ?_
          first | refine vm_r_imulN rfl ?_ | refine vm_r_imul rfl ?_
          refine vm_r_iconst (kI := nI 2) rfl ?_
          first | refine vm_r_iaddN rfl ?_ | refine vm_r_iadd rfl ?_
          refine vm_r_iload_n rfl rfl rfl ?_
          refine vm_r_iastore rfl (h2.s9) (by omega) (by omega) ?_
          refine vm_r_aload_n rfl rfl rfl ?_
          refine vm_r_dup rfl rfl ?_
          refine vm_r_getI rfl (h3.g12 e3) ?_
          refine vm_r_iconst (kI := nI 1) rfl ?_
          first | refine vm_r_iaddN rfl ?_ | refine vm_r_iadd rfl ?_
          refine vm_r_putI rfl (h3.w12) ?_
          refine vm_r_aload_n rfl rfl rfl ?_
          refine vm_r_getI rfl (h4.g12 rI_eq) ?_
          refine vm_r_ret rfl (fun h => by cases h) (⟨_, rfl, rfl, ?_, h4, vMI.mk ?_ ?_ ?_ ?_ ?_ ⟨rI_eq, ?_⟩ ?_⟩)
          · exact ((((vf.mI (by omega) (by omega) : vf _ _ m (m + 15)).tr (vf.mI (by omega) (by omega))).tr (vf.mI (by omega) (by omega))).tr (vf.mI (Nat.le_refl m) (by omega))).x
          · rw [gm 0 (by omega), g _ (by omega) (by omega)]; exact ha
          · rw [g _ (by omega) (by omega)]; exact hb
          · rw [g _ (by omega) (by omega)]; exact hc
          · rw [gm 8 (by omega), g _ (by omega) (by omega)]; exact hd
          · rw [gm 10 (by omega), g _ (by omega) (by omega)]; exact he
          · intro i hi
            have hi : i < wN (zW z) + 1 := hi
            show _ = nI (vu (wP (zW z)) (wN (zW z)) a i) ∧ _ = nI (vu (wG (zW z)) (wN (zW z)) b i) ∧ _ = nI (vu (wI (zW z)) (wN (zW z)) c i)
            by_cases y : i = wN (zW z)
            · subst y
              rw [vu_eq, vu_eq, vu_eq]
              refine ⟨?_, ?_, ?_⟩
              · rw [rI_no (by omega), rI_nk (by omega), rI_nk (by omega), rI_eq]
              · rw [rI_no (by omega), rI_nk (by omega), rI_eq]
              · rw [rI_no (by omega), rI_eq]
            · rw [vu_ne y, vu_ne y, vu_ne y]
              obtain ⟨y1, y2, y3⟩ := hf.2 i (by omega)
              refine ⟨?_, ?_, ?_⟩
              · rw [rI_no (by omega), rI_nk (by omega), rI_nk (by omega), rI_nk (by omega)]; exact y1
              · rw [rI_no (by omega), rI_nk (by omega), rI_nk (by omega), rI_nk (by omega)]; exact y2
              · rw [rI_no (by omega), rI_nk (by omega), rI_nk (by omega), rI_nk (by omega)]; exact y3
          · rw [gm 14 (by omega), g _ (by omega) (by omega)]; exact hg2
        · rw [if_neg (by omega)]
          refine vm_r_bipush rfl ?_
          refine vm_r_ret rfl (fun h => by cases h) (vPM.pure h rfl)
      · rw [if_neg (fun y => hi y.2.2)]
        refine vm_r_iconst rfl ?_
        refine vm_r_ret rfl (fun h => by cases h) (vPM.pure h rfl)
theorem c_M_heard (h : vM μ m z) (k : vOk z) (p g : Int32) : vm_Ex E 2 n_M_heard [.ref m, .int p, .int g] 0 0 μ (vPM μ m (o_heard z p g)) := by
  have hW := k.2.1.2.1
  unfold o_heard
  refine vm_start (D := 1) (by decide) rfl (Nat.le_of_ble_eq_true rfl) (k := k_M_heard) rfl (L := [.ref m, .int p, .int g]) rfl ?_
  refine vm_r_iload_n rfl rfl rfl ?_
  refine vm_r_i2l rfl ?_
  refine vm_r_lconst (kL := lN 0) rfl ?_
  refine vm_r_ldc2_w (kL := lN 4) rfl ?_
  refine vm_r_cs3I rfl (by decide) (Nat.le_of_ble_eq_true rfl) (vm_Ex_le (by first | exact Nat.le_of_ble_eq_true rfl | omega) (c_M_in (x := p) (lo := nI 0) (hi := nI 4) rfl (by decide) (by decide))) ?_
  first | refine vm_r_if_eqB rfl (fun hp => ?_) (fun hp => ?_) | refine vm_r_if_eqN rfl (by omega) (fun hp => ?_) (fun hp => ?_) | refine vm_r_if_eq rfl (fun hp => ?_) (fun hp => ?_)
  · rw [if_neg (fun y => hp y.1)]
    refine vm_r_iconst rfl ?_
    refine vm_r_ret rfl (fun h => by cases h) (vPM.pure h rfl)
  · refine vm_r_iload_n rfl rfl rfl ?_
    refine vm_r_i2l rfl ?_
    refine vm_r_lconst (kL := lN 0) rfl ?_
    refine vm_r_ldc2_w (kL := lN 5) rfl ?_
    refine vm_r_cs3I rfl (by decide) (Nat.le_of_ble_eq_true rfl) (vm_Ex_le (by first | exact Nat.le_of_ble_eq_true rfl | omega) (c_M_in (x := g) (lo := nI 0) (hi := nI 5) rfl (by decide) (by decide))) ?_
    first | refine vm_r_if_neB rfl (fun hg => ?_) (fun hg => ?_) | refine vm_r_if_neN rfl (by omega) (fun hg => ?_) (fun hg => ?_) | refine vm_r_if_ne rfl (fun hg => ?_) (fun hg => ?_)
    · rw [if_pos (show vrg _ 4 ∧ vrg _ 5 from ⟨hp, hg⟩)]
      obtain ⟨a, ha', rfl⟩ := vrg_n (by decide) hp
      obtain ⟨b, hb', rfl⟩ := vrg_n (by decide) hg
      rw [nn_nI (by omega), nn_nI (by omega)]
      refine vm_r_aload_n rfl rfl rfl ?_
      refine vm_r_getI rfl (h.1.g14 h.2.2.2.2.2.2.2.1) ?_
      refine vm_r_bipush (kI := nI 8) rfl ?_
      first | refine vm_r_icmp_neN rfl (by omega) (by omega) (fun e => ?_) (fun e => ?_) | refine vm_r_icmp_ne rfl (fun e => ?_) (fun e => ?_)
      · rw [if_pos (by omega)]
        obtain ⟨h0, ha, hb, hc, hd, he, hf, hg2⟩ := h
        have e1 : (vm_mI μ (m + 10) (2 * wM (zW z)) (nI a)).2.1 m 14 = nI (wM (zW z)) := by rw [rI_no (by omega)]; exact hg2.1
        have e2 : (vm_mI (vm_mI μ (m + 10) (2 * wM (zW z)) (nI a)) (m + 10) (2 * wM (zW z) + 1) (nI b)).2.1 m 14 = nI (wM (zW z)) := by rw [rI_no (by omega)]; exact e1
        have h1 : vMh (vm_mI μ (m + 10) (2 * wM (zW z)) (nI a)).1 m := h0
        have h2 : vMh (vm_mI (vm_mI μ (m + 10) (2 * wM (zW z)) (nI a)) (m + 10) (2 * wM (zW z) + 1) (nI b)).1 m := h0
        have h4 : vMh (vm_mI (vm_mI (vm_mI μ (m + 10) (2 * wM (zW z)) (nI a)) (m + 10) (2 * wM (zW z) + 1) (nI b)) m 14 (nI (wM (zW z) + 1))).1 m := h0
        have g : ∀ o, o ≠ m → o ≠ m + 10 → (vm_mI (vm_mI (vm_mI μ (m + 10) (2 * wM (zW z)) (nI a)) (m + 10) (2 * wM (zW z) + 1) (nI b)) m 14 (nI (wM (zW z) + 1))).2.1 o = μ.2.1 o := fun o o1 o2 => by rw [rI_no2 o1, rI_no2 o2, rI_no2 o2]
        have gm : ∀ k, k ≠ 14 → (vm_mI (vm_mI (vm_mI μ (m + 10) (2 * wM (zW z)) (nI a)) (m + 10) (2 * wM (zW z) + 1) (nI b)) m 14 (nI (wM (zW z) + 1))).2.1 m k = μ.2.1 m k := fun k o1 => by rw [rI_nk o1, rI_no2 (by omega), rI_no2 (by omega)]
        refine vm_r_aload_n rfl rfl rfl ?_
        refine vm_r_getR rfl (h0.r10) ?_
        refine vm_r_iconst (kI := nI 2) rfl ?_
        refine vm_r_aload_n rfl rfl rfl ?_
        refine vm_r_getI rfl (h0.g14 hg2.1) ?_
        first | refine vm_r_imulN rfl ?_ | refine vm_r_imul rfl ?_
        refine vm_r_iload_n rfl rfl rfl ?_
        refine vm_r_iastore rfl (h0.s10) (by omega) (by omega) ?_
        refine vm_r_aload_n rfl rfl rfl ?_
        refine vm_r_getR rfl (h1.r10) ?_
        refine vm_r_iconst (kI := nI 2) rfl ?_
        refine vm_r_aload_n rfl rfl rfl ?_
        refine vm_r_getI rfl (h1.g14 e1) ?_
        first | refine vm_r_imulN rfl ?_ | refine vm_r_imul rfl ?_
        refine vm_r_iconst (kI := nI 1) rfl ?_
        first | refine vm_r_iaddN rfl ?_ | refine vm_r_iadd rfl ?_
        refine vm_r_iload_n rfl rfl rfl ?_
        refine vm_r_iastore rfl (h1.s10) (by omega) (by omega) ?_
        refine vm_r_aload_n rfl rfl rfl ?_
        refine vm_r_dup rfl rfl ?_
        refine vm_r_getI rfl (h2.g14 e2) ?_
        refine vm_r_iconst (kI := nI 1) rfl ?_
        first | refine vm_r_iaddN rfl ?_ | refine vm_r_iadd rfl ?_
        refine vm_r_putI rfl (h2.w14) ?_
        refine vm_r_aload_n rfl rfl rfl ?_
        refine vm_r_getI rfl (h4.g14 rI_eq) ?_
        refine vm_r_ret rfl (fun h => by cases h) (⟨_, rfl, rfl, ?_, h4, vMI.mk ?_ ?_ ?_ ?_ ?_ ?_ ⟨rI_eq, ?_⟩⟩)
        · exact (((vf.mI (by omega) (by omega) : vf _ _ m (m + 15)).tr (vf.mI (by omega) (by omega))).tr (vf.mI (Nat.le_refl m) (by omega))).x
        · rw [gm 0 (by omega), g _ (by omega) (by omega)]; exact ha
        · rw [g _ (by omega) (by omega)]; exact hb
        · rw [g _ (by omega) (by omega)]; exact hc
        · rw [gm 8 (by omega), g _ (by omega) (by omega)]; exact hd
        · rw [gm 10 (by omega), g _ (by omega) (by omega)]; exact he
        · rw [gm 12 (by omega), g _ (by omega) (by omega)]; exact hf
        · intro i hi
          have hi : i < wM (zW z) + 1 := hi
          show _ = nI (vu (wK (zW z)) (wM (zW z)) a i) ∧ _ = nI (vu (wS (zW z)) (wM (zW z)) b i)
          by_cases y : i = wM (zW z)
          · subst y
            rw [vu_eq, vu_eq]
            refine ⟨?_, ?_⟩
            · rw [rI_no (by omega), rI_nk (by omega), rI_eq]
            · rw [rI_no (by omega), rI_eq]
          · rw [vu_ne y, vu_ne y]
            obtain ⟨y1, y2⟩ := hg2.2 i (by omega)
            refine ⟨?_, ?_⟩
            · rw [rI_no (by omega), rI_nk (by omega), rI_nk (by omega)]; exact y1
            · rw [rI_no (by omega), rI_nk (by omega), rI_nk (by omega)]; exact y2
      · rw [if_neg (by omega)]
        refine vm_r_bipush rfl ?_
        refine vm_r_ret rfl (fun h => by cases h) (vPM.pure h rfl)
    · rw [if_neg (fun y => hg y.2)]
      refine vm_r_iconst rfl ?_
      refine vm_r_ret rfl (fun h => by cases h) (vPM.pure h rfl)
theorem c_M_forget (h : vM μ m z) : vm_Ex E 1 n_M_forget [.ref m] 0 0 μ (vPM μ m (o_forget z)) := by
  obtain ⟨h0, ha, hb, hc, hd, he, hf, hg⟩ := h
  refine vm_start (D := 0) (by decide) rfl (Nat.le_of_ble_eq_true rfl) (k := k_M_forget) rfl (L := [.ref m, .retAddr 0]) rfl ?_
  have g : ∀ o, o ≠ m → (vm_mI (vm_mI μ m 12 (nI 0)) m 14 (nI 0)).2.1 o = μ.2.1 o := fun o o1 => by rw [rI_no2 o1, rI_no2 o1]
  have gm : ∀ k, k ≠ 12 → k ≠ 14 → (vm_mI (vm_mI μ m 12 (nI 0)) m 14 (nI 0)).2.1 m k = μ.2.1 m k := fun k o1 o2 => by rw [rI_nk o2, rI_nk o1]
  have h1 : vMh (vm_mI μ m 12 (nI 0)).1 m := h0
  refine vm_r_aload_n rfl rfl rfl ?_
  refine vm_r_getI rfl (h0.g12 hf.1) ?_
  refine vm_r_aload_n rfl rfl rfl ?_
  refine vm_r_getI rfl (h0.g14 hg.1) ?_
  first | refine vm_r_iaddN rfl ?_ | refine vm_r_iadd rfl ?_
  refine vm_r_istore_n1 rfl rfl rfl ?_
  refine vm_r_aload_n rfl rfl rfl ?_
  refine vm_r_iconst (kI := nI 0) rfl ?_
  refine vm_r_putI rfl (h0.w12) ?_
  refine vm_r_aload_n rfl rfl rfl ?_
  refine vm_r_iconst (kI := nI 0) rfl ?_
  refine vm_r_putI rfl (h1.w14) ?_
  refine vm_r_iload_n rfl rfl rfl ?_
  refine vm_r_ret rfl (fun h => by cases h) (⟨_, rfl, rfl, ((vf.mI (Nat.le_refl m) (by omega) : vf _ _ m (m + 15)).tr (vf.mI (Nat.le_refl m) (by omega))).x, h0, vMI.mk ?_ ?_ ?_ ?_ ?_ ⟨?_, ?_⟩ ⟨rI_eq, ?_⟩⟩)
  · rw [gm 0 (by omega) (by omega), g _ (by omega)]; exact ha
  · rw [g _ (by omega)]; exact hb
  · rw [g _ (by omega)]; exact hc
  · rw [gm 8 (by omega) (by omega), g _ (by omega)]; exact hd
  · rw [gm 10 (by omega) (by omega), g _ (by omega)]; exact he
  · rw [rI_nk (by omega), rI_eq]
    rfl
  · intro i hi
    have hi : i < 0 := hi
    omega
  · intro i hi
    have hi : i < 0 := hi
    omega
theorem c_M_differs {g : Nat} (h : vM μ m z) (k : vOk z) (hg : g < tG (zT z)) : vm_Ex E 1 n_M_differs [.ref m, .int (nI g)] 0 0 μ (vm_PI (nI (vmi z g)) μ) := by
  have hM := k.2.1.2.1
  have hG := k.1.1
  obtain ⟨h0, ha, hb, hc, hd, he, hf, hh⟩ := h
  refine vm_start (D := 0) (by decide) rfl (Nat.le_of_ble_eq_true rfl) (k := k_M_differs) rfl (L := [.ref m, .int (nI g), .retAddr 0, .retAddr 0]) rfl ?_
  refine vm_r_iconst (kI := nI 0) rfl ?_
  refine vm_r_istore_n2 rfl rfl rfl ?_
  refine vm_r_iconst (kI := nI 0) rfl ?_
  refine vm_r_istore_n3 rfl rfl rfl ?_
  refine vm_up (P := fun i => vm_W E (vm_Ex E 0) k_M_differs _ (4, [.ref m, .int (nI g), .int (nI (vmis (zW z) (tA (zT z) g) i)), .int (nI i)], [], 0, 0, μ)) (N := wM (zW z)) ?_ ?_ 0 (by omega)
  · refine vm_r_iload_n rfl rfl rfl ?_
    refine vm_r_aload_n rfl rfl rfl ?_
    refine vm_r_getI rfl (h0.g14 hh.1) ?_
    first | refine vm_r_icmp_geN rfl (by omega) (by omega) (fun _ => ?_) (fun hn => absurd hn (by omega)) | refine vm_r_icmp_ge rfl (fun _ => ?_) (fun hn => absurd hn (by omega))
    refine vm_r_iload_n rfl rfl rfl ?_
    refine vm_r_ret rfl (fun h => by cases h) (vm_PI.of rfl)
  · intro i hi ih
    obtain ⟨b1, b2⟩ := k.2.1.2.2.2 i hi
    obtain ⟨y1, y2⟩ := hh.2 i hi
    have b3 := vd_lt (tA (zT z) g) (wK (zW z) i)
    rw [vmis_s] at ih
    refine vm_r_iload_n rfl rfl rfl ?_
    refine vm_r_aload_n rfl rfl rfl ?_
    refine vm_r_getI rfl (h0.g14 hh.1) ?_
    first | refine vm_r_icmp_geN rfl (by omega) (by omega) (fun hn => absurd hn (by omega)) (fun _ => ?_) | refine vm_r_icmp_ge rfl (fun hn => absurd hn (by omega)) (fun _ => ?_)
    refine vm_r_iload_n rfl rfl rfl ?_
    refine vm_r_aload_n rfl rfl rfl ?_
    refine vm_r_getR rfl (h0.r5) ?_
    refine vm_r_iconst (kI := nI 5) rfl ?_
    refine vm_r_iload_n rfl rfl rfl ?_
    first | refine vm_r_imulN rfl ?_ | refine vm_r_imul rfl ?_
    refine vm_r_aload_n rfl rfl rfl ?_
    refine vm_r_getR rfl (h0.r10) ?_
    refine vm_r_iconst (kI := nI 2) rfl ?_
    refine vm_r_iload_n rfl rfl rfl ?_
    first | refine vm_r_imulN rfl ?_ | refine vm_r_imul rfl ?_
    refine vm_r_iaload rfl (h0.s10) (by omega) (by omega) (y1) ?_
    first | refine vm_r_iaddN rfl ?_ | refine vm_r_iadd rfl ?_
    refine vm_r_iaload rfl (h0.s5) (by omega) (by omega) (hc.1 g (wK (zW z) i) hg b1) ?_
    refine vm_r_aload_n rfl rfl rfl ?_
    refine vm_r_getR rfl (h0.r10) ?_
    refine vm_r_iconst (kI := nI 2) rfl ?_
    refine vm_r_iload_n rfl rfl rfl ?_
    first | refine vm_r_imulN rfl ?_ | refine vm_r_imul rfl ?_
    refine vm_r_iconst (kI := nI 1) rfl ?_
    first | refine vm_r_iaddN rfl ?_ | refine vm_r_iadd rfl ?_
    refine vm_r_iaload rfl (h0.s10) (by omega) (by omega) (y2) ?_
    first | refine vm_r_icmp_eqN rfl (by omega) (by omega) (fun e => ?_) (fun e => ?_) | refine vm_r_icmp_eq rfl (fun e => ?_) (fun e => ?_)
    · rw [if_neg (by simp [e])] at ih
      refine vm_r_iconst (kI := nI 0) rfl ?_
      first | refine vm_r_iaddN rfl ?_ | refine vm_r_iadd rfl ?_
      refine vm_r_istore_n2 rfl rfl rfl ?_
      first | refine vm_r_iinc3N (y := 1) rfl rfl ?_ | refine vm_r_iinc3 rfl rfl ?_
      refine vm_r_goto rfl ?_
      exact ih
    · rw [if_pos (by simp [e])] at ih
      refine vm_r_iconst (kI := nI 1) rfl ?_
      refine vm_r_goto rfl ?_
      first | refine vm_r_iaddN rfl ?_ | refine vm_r_iadd rfl ?_
      refine vm_r_istore_n2 rfl rfl rfl ?_
      first | refine vm_r_iinc3N (y := 1) rfl rfl ?_ | refine vm_r_iinc3 rfl rfl ?_
      refine vm_r_goto rfl ?_
      exact ih
theorem c_M_from (h : vM μ m z) (k : vOk z) : vm_Ex E 2 n_M_from [.ref m] 0 0 μ (vPM μ m (o_from z)) := by
  have hG := k.1.1
  have hM := k.2.1.2.1
  refine vm_start (D := 1) (by decide) rfl (Nat.le_of_ble_eq_true rfl) (k := k_M_from) rfl (L := [.ref m, .retAddr 0, .retAddr 0]) rfl ?_
  refine vm_r_iconst (kI := nI 0) rfl ?_
  refine vm_r_istore_n1 rfl rfl rfl ?_
  refine vm_r_iconst (kI := nI 0) rfl ?_
  refine vm_r_istore_n2 rfl rfl rfl ?_
  refine vm_up (P := fun j => vm_W E (vm_Ex E 1) k_M_from _ (4, [.ref m, .int (nI (vmask (fun g => decide (vmi z g = 0)) j)), .int (nI j)], [], 0, 0, μ)) (N := tG (zT z)) ?_ ?_ 0 (by omega)
  · refine vm_r_iload_n rfl rfl rfl ?_
    refine vm_r_aload_n rfl rfl rfl ?_
    refine vm_r_getR rfl (h.1.r2) ?_
    refine vm_r_iconst (kI := nI 0) rfl ?_
    refine vm_r_iaload rfl (h.1.s2) (by omega) (by omega) (h.2.2.1.1) ?_
    first | refine vm_r_icmp_geN rfl (by omega) (by omega) (fun _ => ?_) (fun hn => absurd hn (by omega)) | refine vm_r_icmp_ge rfl (fun _ => ?_) (fun hn => absurd hn (by omega))
    refine vm_r_iload_n rfl rfl rfl ?_
    refine vm_r_ret rfl (fun h => by cases h) (vPM.pure h rfl)
  · intro j hj ih
    have hm : vmi z j ≤ wM (zW z) := vmis_le _ _ _
    rw [vmask_s, ← Nat.one_mul (2 ^ j)] at ih
    refine vm_r_iload_n rfl rfl rfl ?_
    refine vm_r_aload_n rfl rfl rfl ?_
    refine vm_r_getR rfl (h.1.r2) ?_
    refine vm_r_iconst (kI := nI 0) rfl ?_
    refine vm_r_iaload rfl (h.1.s2) (by omega) (by omega) (h.2.2.1.1) ?_
    first | refine vm_r_icmp_geN rfl (by omega) (by omega) (fun hn => absurd hn (by omega)) (fun _ => ?_) | refine vm_r_icmp_ge rfl (fun hn => absurd hn (by omega)) (fun _ => ?_)
    refine vm_r_iload_n rfl rfl rfl ?_
    refine vm_r_aload_n rfl rfl rfl ?_
    refine vm_r_iload_n rfl rfl rfl ?_
    refine vm_r_cv2I rfl (by decide) (h.1.ob) (Nat.le_of_ble_eq_true rfl) (vm_Ex_le (by first | exact Nat.le_of_ble_eq_true rfl | omega) (c_M_differs h k hj)) ?_
    first | refine vm_r_if_neB rfl (fun e => ?_) (fun e => ?_) | refine vm_r_if_neN rfl (by omega) (fun e => ?_) (fun e => ?_) | refine vm_r_if_ne rfl (fun e => ?_) (fun e => ?_)
    · rw [if_neg (by simp only [decide_eq_true_eq]; omega), ← Nat.or_zero (vmask (fun g => decide (vmi z g = 0)) j)] at ih
      refine vm_r_iconst (kI := nI 0) rfl ?_
      first | refine vm_r_iorN rfl ?_ | refine vm_r_ior rfl ?_
      refine vm_r_istore_n1 rfl rfl rfl ?_
      first | refine vm_r_iinc2N (y := 1) rfl rfl ?_ | refine vm_r_iinc2 rfl rfl ?_
      refine vm_r_goto rfl ?_
      exact ih
    · rw [if_pos (by simp only [decide_eq_true_eq]; omega)] at ih
      refine vm_r_iconst (kI := nI 1) rfl ?_
      refine vm_r_iload_n rfl rfl rfl ?_
      refine vm_r_ishlN rfl (by omega) (v_p32 j (by omega)) ?_
      refine vm_r_goto rfl ?_
      first | refine vm_r_iorN rfl ?_ | refine vm_r_ior rfl ?_
      refine vm_r_istore_n1 rfl rfl rfl ?_
      first | refine vm_r_iinc2N (y := 1) rfl rfl ?_ | refine vm_r_iinc2 rfl rfl ?_
      refine vm_r_goto rfl ?_
      exact ih
theorem vne_1 {z : vZ} (k : vOk z) (n : Nat) : (vne z (n + 1)).1 < n + 1 ∧ (vne z (n + 1)).2 = vmi z (vne z (n + 1)).1 := by
  have hM := k.2.1.2.1
  induction n with
  | zero =>
    rw [vne_s]
    have hm : vmi z 0 ≤ wM (zW z) := vmis_le _ _ _
    rw [if_pos (by show vmi z 0 < 9; omega)]
    exact ⟨Nat.lt_succ_self _, rfl⟩
  | succ n ih =>
    rw [vne_s]
    split
    · exact ⟨Nat.lt_succ_self _, rfl⟩
    · exact ⟨Nat.lt_succ_of_lt ih.1, ih.2⟩
theorem c_M_nearest (h : vM μ m z) (k : vOk z) (w : Int32) : vm_Ex E 2 n_M_nearest [.ref m, .int w] 0 0 μ (vPM μ m (o_nearest z w)) := by
  have hG := k.1.1
  have hM := k.2.1.2.1
  have hi := k.2.2.2.2.2.1
  refine vm_start (D := 1) (by decide) rfl (Nat.le_of_ble_eq_true rfl) (k := k_M_nearest) rfl (L := [.ref m, .int w, .retAddr 0, .retAddr 0]) rfl ?_
  refine vm_r_iload_n rfl rfl rfl ?_
  refine vm_r_i2l rfl ?_
  refine vm_r_lconst (kL := lN 0) rfl ?_
  refine vm_r_lconst (kL := lN 1) rfl ?_
  refine vm_r_cs3I rfl (by decide) (Nat.le_of_ble_eq_true rfl) (vm_Ex_le (by first | exact Nat.le_of_ble_eq_true rfl | omega) (c_M_in (x := w) (lo := nI 0) (hi := nI 1) rfl (by decide) (by decide))) ?_
  first | refine vm_r_if_neB rfl (fun hw => ?_) (fun hw => ?_) | refine vm_r_if_neN rfl (by omega) (fun hw => ?_) (fun hw => ?_) | refine vm_r_if_ne rfl (fun hw => ?_) (fun hw => ?_)
  · obtain ⟨c, hc, rfl⟩ := vrg_n (by decide) hw
    refine vm_r_iconst (kI := nI 0) rfl ?_
    refine vm_r_istore_n2 rfl rfl rfl ?_
    refine vm_r_iconst (kI := nI 1) rfl ?_
    refine vm_r_istore_n3 rfl rfl rfl ?_
    have e0 : (vne z 1).1 = 0 := by have q : (vne z 1).1 < 1 := (vne_1 k 0).1; omega
    have st := vm_up (P := fun j => vm_W E (vm_Ex E 1) k_M_nearest (vPM μ m (o_nearest z (nI c))) (16, [.ref m, .int (nI c), .int (nI (vne z (j + 1)).1), .int (nI (j + 1))], [], 0, 0, μ)) (N := tG (zT z) - 1) ?_ ?_ 0 (by omega)
    · rw [e0] at st
      exact st
    · rw [show tG (zT z) - 1 + 1 = tG (zT z) by omega]
      have hv := vne_1 k (tG (zT z) - 1)
      rw [show tG (zT z) - 1 + 1 = tG (zT z) by omega] at hv
      refine vm_r_iload_n rfl rfl rfl ?_
      refine vm_r_aload_n rfl rfl rfl ?_
      refine vm_r_getR rfl (h.1.r2) ?_
      refine vm_r_iconst (kI := nI 0) rfl ?_
      refine vm_r_iaload rfl (h.1.s2) (by omega) (by omega) (h.2.2.1.1) ?_
      first | refine vm_r_icmp_geN rfl (by omega) (by omega) (fun _ => ?_) (fun hn => absurd hn (by omega)) | refine vm_r_icmp_ge rfl (fun _ => ?_) (fun hn => absurd hn (by omega))
      refine vm_r_iload_n rfl rfl rfl ?_
      first | refine vm_r_if_neB rfl (fun e => ?_) (fun e => ?_) | refine vm_r_if_neN rfl (by omega) (fun e => ?_) (fun e => ?_) | refine vm_r_if_ne rfl (fun e => ?_) (fun e => ?_)
      · refine vm_r_aload_n rfl rfl rfl ?_
        refine vm_r_iload_n rfl rfl rfl ?_
        refine vm_r_cv2I rfl (by decide) (h.1.ob) (Nat.le_of_ble_eq_true rfl) (vm_Ex_le (by first | exact Nat.le_of_ble_eq_true rfl | omega) (c_M_differs h k hv.1)) ?_
        refine vm_r_ret rfl (fun h => by cases h) (vPM.pure h (by rw [if_pos (show vrg _ _ from hw), nn_nI (by omega), if_neg (by omega), hv.2]))
      · refine vm_r_iload_n rfl rfl rfl ?_
        refine vm_r_goto rfl ?_
        refine vm_r_ret rfl (fun h => by cases h) (vPM.pure h (by rw [if_pos (show vrg _ _ from hw), nn_nI (by omega), if_pos (by omega)]))
    · intro j hj ih
      have hv := vne_1 k j
      have hm1 : vmi z (j + 1) ≤ wM (zW z) := vmis_le _ _ _
      have hm2 : vmi z (vne z (j + 1)).1 ≤ wM (zW z) := vmis_le _ _ _
      rw [vne_s z (j + 1), hv.2] at ih
      refine vm_r_iload_n rfl rfl rfl ?_
      refine vm_r_aload_n rfl rfl rfl ?_
      refine vm_r_getR rfl (h.1.r2) ?_
      refine vm_r_iconst (kI := nI 0) rfl ?_
      refine vm_r_iaload rfl (h.1.s2) (by omega) (by omega) (h.2.2.1.1) ?_
      first | refine vm_r_icmp_geN rfl (by omega) (by omega) (fun hn => absurd hn (by omega)) (fun _ => ?_) | refine vm_r_icmp_ge rfl (fun hn => absurd hn (by omega)) (fun _ => ?_)
      refine vm_r_aload_n rfl rfl rfl ?_
      refine vm_r_iload_n rfl rfl rfl ?_
      refine vm_r_cv2I rfl (by decide) (h.1.ob) (Nat.le_of_ble_eq_true rfl) (vm_Ex_le (by first | exact Nat.le_of_ble_eq_true rfl | omega) (c_M_differs h k (by omega))) ?_
      refine vm_r_aload_n rfl rfl rfl ?_
      refine vm_r_iload_n rfl rfl rfl ?_
      refine vm_r_cv2I rfl (by decide) (h.1.ob) (Nat.le_of_ble_eq_true rfl) (vm_Ex_le (by first | exact Nat.le_of_ble_eq_true rfl | omega) (c_M_differs h k (by omega))) ?_
      first | refine vm_r_icmp_geN rfl (by omega) (by omega) (fun e => ?_) (fun e => ?_) | refine vm_r_icmp_ge rfl (fun e => ?_) (fun e => ?_)
      · rw [if_neg (by omega)] at ih
        refine vm_r_iload_n rfl rfl rfl ?_
        refine vm_r_istore_n2 rfl rfl rfl ?_
        first | refine vm_r_iinc3N (y := 1) rfl rfl ?_ | refine vm_r_iinc3 rfl rfl ?_
        refine vm_r_goto rfl ?_
        exact ih
      · rw [if_pos (by omega)] at ih
        refine vm_r_iload_n rfl rfl rfl ?_
        refine vm_r_goto rfl ?_
        refine vm_r_istore_n2 rfl rfl rfl ?_
        first | refine vm_r_iinc3N (y := 1) rfl rfl ?_ | refine vm_r_iinc3 rfl rfl ?_
        refine vm_r_goto rfl ?_
        exact ih
  · refine vm_r_iconst rfl ?_
    refine vm_r_ret rfl (fun h => by cases h) (vPM.pure h (by rw [if_neg (show ¬ vrg w 1 from hw)]))
theorem c_M_ofGates {f : Nat} {q : Nat} (h : vMh μ.1 m) (hf : (f = 1 ∧ q = m + 6) ∨ (f = 0 ∧ q = m + 5)) (e : μ.2.1 (m + 2) 1 = nI (tP T)) (r : vRow (μ.2.1 q) T) (hP : tP T ≤ 6) : vm_Ex E 1 n_M_ofGates [.ref m, .int (nI f)] 0 0 μ (vm_PI (nI (vst T (tP T))) μ) := by
  refine vm_start (D := 0) (by decide) rfl (Nat.le_of_ble_eq_true rfl) (k := k_M_ofGates) rfl (L := [.ref m, .int (nI f), .retAddr 0, .retAddr 0]) rfl ?_
  refine vm_r_iconst (kI := nI 0) rfl ?_
  refine vm_r_istore_n2 rfl rfl rfl ?_
  refine vm_r_iconst (kI := nI 0) rfl ?_
  refine vm_r_istore_n3 rfl rfl rfl ?_
  refine vm_up (P := fun i => vm_W E (vm_Ex E 0) k_M_ofGates _ (4, [.ref m, .int (nI f), .int (nI (vst T i)), .int (nI i)], [], 0, 0, μ)) (N := tP T) ?_ ?_ 0 (by omega)
  · refine vm_r_iload_n rfl rfl rfl ?_
    refine vm_r_aload_n rfl rfl rfl ?_
    refine vm_r_getR rfl (h.r2) ?_
    refine vm_r_iconst (kI := nI 1) rfl ?_
    refine vm_r_iaload rfl (h.s2) (by omega) (by omega) (e) ?_
    first | refine vm_r_icmp_geN rfl (by omega) (by omega) (fun _ => ?_) (fun hn => absurd hn (by omega)) | refine vm_r_icmp_ge rfl (fun _ => ?_) (fun hn => absurd hn (by omega))
    refine vm_r_iload_n rfl rfl rfl ?_
    refine vm_r_ret rfl (fun h => by cases h) (vm_PI.of rfl)
  · intro i hi ih
    have e1 : vst T (i + 1) = vst T i + if decide (¬ tH T i = -4) = true then 1 else 0 := rfl
    rw [e1] at ih
    have fin : vm_W E (vm_Ex E 0) k_M_ofGates (vm_PI (nI (vst T (tP T))) μ) (40, [.ref m, .int (nI f), .int (nI (vst T i)), .int (nI i)], [.int (tH T i), .int (nI (vst T i))], 0, 0, μ) := by
      refine vm_r_bipush rfl ?_
      refine vm_r_icmp_eq rfl (fun o => ?_) (fun o => ?_)
      · rw [if_neg (by simp [o])] at ih
        refine vm_r_iconst (kI := nI 0) rfl ?_
        first | refine vm_r_iaddN rfl ?_ | refine vm_r_iadd rfl ?_
        refine vm_r_istore_n2 rfl rfl rfl ?_
        first | refine vm_r_iinc3N (y := 1) rfl rfl ?_ | refine vm_r_iinc3 rfl rfl ?_
        refine vm_r_goto rfl ?_
        exact ih
      · rw [if_pos (by simp [o])] at ih
        refine vm_r_iconst (kI := nI 1) rfl ?_
        refine vm_r_goto rfl ?_
        first | refine vm_r_iaddN rfl ?_ | refine vm_r_iadd rfl ?_
        refine vm_r_istore_n2 rfl rfl rfl ?_
        first | refine vm_r_iinc3N (y := 1) rfl rfl ?_ | refine vm_r_iinc3 rfl rfl ?_
        refine vm_r_goto rfl ?_
        exact ih
    rcases hf with ⟨rfl, rfl⟩ | ⟨rfl, rfl⟩
    · refine vm_r_iload_n rfl rfl rfl ?_
      refine vm_r_aload_n rfl rfl rfl ?_
      refine vm_r_getR rfl (h.r2) ?_
      refine vm_r_iconst (kI := nI 1) rfl ?_
      refine vm_r_iaload rfl (h.s2) (by omega) (by omega) (e) ?_
      first | refine vm_r_icmp_geN rfl (by omega) (by omega) (fun hn => absurd hn (by omega)) (fun _ => ?_) | refine vm_r_icmp_ge rfl (fun hn => absurd hn (by omega)) (fun _ => ?_)
      refine vm_r_iload_n rfl rfl rfl ?_
      refine vm_r_iload_n rfl rfl rfl ?_
      first | refine vm_r_if_eqB rfl (fun hn => absurd hn (by omega)) (fun _ => ?_) | refine vm_r_if_eqN rfl (by omega) (fun hn => absurd hn (by omega)) (fun _ => ?_) | refine vm_r_if_eq rfl (fun hn => absurd hn (by omega)) (fun _ => ?_)
      refine vm_r_aload_n rfl rfl rfl ?_
      refine vm_r_getR rfl (h.r6) ?_
      refine vm_r_bipush (kI := nI 55) rfl ?_
      refine vm_r_iload_n rfl rfl rfl ?_
      first | refine vm_r_iaddN rfl ?_ | refine vm_r_iadd rfl ?_
      refine vm_r_iaload rfl (h.s6) (by omega) (by omega) (r.2.2.1 i hi) ?_
      refine vm_r_goto rfl ?_
      exact fin
    · refine vm_r_iload_n rfl rfl rfl ?_
      refine vm_r_aload_n rfl rfl rfl ?_
      refine vm_r_getR rfl (h.r2) ?_
      refine vm_r_iconst (kI := nI 1) rfl ?_
      refine vm_r_iaload rfl (h.s2) (by omega) (by omega) (e) ?_
      first | refine vm_r_icmp_geN rfl (by omega) (by omega) (fun hn => absurd hn (by omega)) (fun _ => ?_) | refine vm_r_icmp_ge rfl (fun hn => absurd hn (by omega)) (fun _ => ?_)
      refine vm_r_iload_n rfl rfl rfl ?_
      refine vm_r_iload_n rfl rfl rfl ?_
      first | refine vm_r_if_eqB rfl (fun _ => ?_) (fun hn => absurd hn (by omega)) | refine vm_r_if_eqN rfl (by omega) (fun _ => ?_) (fun hn => absurd hn (by omega)) | refine vm_r_if_eq rfl (fun _ => ?_) (fun hn => absurd hn (by omega))
      refine vm_r_aload_n rfl rfl rfl ?_
      refine vm_r_getR rfl (h.r5) ?_
      refine vm_r_bipush (kI := nI 55) rfl ?_
      refine vm_r_iload_n rfl rfl rfl ?_
      first | refine vm_r_iaddN rfl ?_ | refine vm_r_iadd rfl ?_
      refine vm_r_iaload rfl (h.s5) (by omega) (by omega) (r.2.2.1 i hi) ?_
      exact fin
theorem c_M_count (h : vM μ m z) (k : vOk z) (w : Int32) : vm_Ex E 2 n_M_count [.ref m, .int w] 0 0 μ (vPM μ m (o_count z w)) := by
  obtain ⟨h0, ha, hb, hc, hd, he, hf, hg⟩ := id h
  refine vm_start (D := 1) (by decide) rfl (Nat.le_of_ble_eq_true rfl) (k := k_M_count) rfl (L := [.ref m, .int w]) rfl ?_
  by_cases hw : 0 ≤ w ∧ w ≤ nI 9
  · obtain ⟨j, hj, rfl⟩ := vrg_n (by decide) hw
    match j, hj with
    | 0, _ =>
      refine vm_r_iload_n rfl rfl rfl ?_
      refine vm_r_br rfl (n' := 56) (vm_tsN (j := 0) (by decide) (by decide) rfl rfl) ?_
      refine vm_r_aload_n rfl rfl rfl ?_
      refine vm_r_getR rfl (h0.r2) ?_
      refine vm_r_iload_n rfl rfl rfl ?_
      refine vm_r_iaload rfl (h0.s2) (by omega) (by omega) (hb.1) ?_
      refine vm_r_ret rfl (fun h => by cases h) (vPM.pure h (by rw [if_pos (by decide)]))
    | 1, _ =>
      refine vm_r_iload_n rfl rfl rfl ?_
      refine vm_r_br rfl (n' := 56) (vm_tsN (j := 1) (by decide) (by decide) rfl rfl) ?_
      refine vm_r_aload_n rfl rfl rfl ?_
      refine vm_r_getR rfl (h0.r2) ?_
      refine vm_r_iload_n rfl rfl rfl ?_
      refine vm_r_iaload rfl (h0.s2) (by omega) (by omega) (hb.2.1) ?_
      refine vm_r_ret rfl (fun h => by cases h) (vPM.pure h (by rw [if_neg (by decide), if_pos (by decide)]))
    | 2, _ =>
      refine vm_r_iload_n rfl rfl rfl ?_
      refine vm_r_br rfl (n' := 63) (vm_tsN (j := 2) (by decide) (by decide) rfl rfl) ?_
      refine vm_r_aload_n rfl rfl rfl ?_
      refine vm_r_getR rfl (h0.r5) ?_
      refine vm_r_bipush (kI := nI 61) rfl ?_
      refine vm_r_iaload rfl (h0.s5) (by omega) (by omega) (hc.2.2.2.1) ?_
      refine vm_r_ret rfl (fun h => by cases h) (vPM.pure h (by rw [if_neg (by decide), if_neg (by decide), if_pos (by decide)]))
    | 3, _ =>
      refine vm_r_iload_n rfl rfl rfl ?_
      refine vm_r_br rfl (n' := 71) (vm_tsN (j := 3) (by decide) (by decide) rfl rfl) ?_
      refine vm_r_aload_n rfl rfl rfl ?_
      refine vm_r_getR rfl (h0.r5) ?_
      refine vm_r_bipush (kI := nI 62) rfl ?_
      refine vm_r_iaload rfl (h0.s5) (by omega) (by omega) (hc.2.2.2.2) ?_
      refine vm_r_ret rfl (fun h => by cases h) (vPM.pure h (by rw [if_neg (by decide), if_neg (by decide), if_neg (by decide), if_pos (by decide)]))
    | 4, _ =>
      refine vm_r_iload_n rfl rfl rfl ?_
      refine vm_r_br rfl (n' := 79) (vm_tsN (j := 4) (by decide) (by decide) rfl rfl) ?_
      refine vm_r_aload_n rfl rfl rfl ?_
      refine vm_r_iconst (kI := nI 0) rfl ?_
      refine vm_r_cv2I rfl (by decide) (h0.ob) (Nat.le_of_ble_eq_true rfl) (vm_Ex_le (by first | exact Nat.le_of_ble_eq_true rfl | omega) (c_M_ofGates (f := 0) h0 (Or.inr ⟨rfl, rfl⟩) hb.2.1 hc k.1.2.1)) ?_
      refine vm_r_ret rfl (fun h => by cases h) (vPM.pure h (by rw [if_neg (by decide), if_neg (by decide), if_neg (by decide), if_neg (by decide), if_pos (by decide)]))
    | 5, _ =>
      refine vm_r_iload_n rfl rfl rfl ?_
      refine vm_r_br rfl (n' := 85) (vm_tsN (j := 5) (by decide) (by decide) rfl rfl) ?_
      refine vm_r_aload_n rfl rfl rfl ?_
      refine vm_r_getI rfl (h0.g12 hf.1) ?_
      refine vm_r_ret rfl (fun h => by cases h) (vPM.pure h (by rw [if_neg (by decide), if_neg (by decide), if_neg (by decide), if_neg (by decide), if_neg (by decide), if_pos (by decide)]))
    | 6, _ =>
      refine vm_r_iload_n rfl rfl rfl ?_
      refine vm_r_br rfl (n' := 90) (vm_tsN (j := 6) (by decide) (by decide) rfl rfl) ?_
      refine vm_r_aload_n rfl rfl rfl ?_
      refine vm_r_getI rfl (h0.g14 hg.1) ?_
      refine vm_r_ret rfl (fun h => by cases h) (vPM.pure h (by rw [if_neg (by decide), if_neg (by decide), if_neg (by decide), if_neg (by decide), if_neg (by decide), if_neg (by decide), if_pos (by decide)]))
    | 7, _ =>
      refine vm_r_iload_n rfl rfl rfl ?_
      refine vm_r_br rfl (n' := 95) (vm_tsN (j := 7) (by decide) (by decide) rfl rfl) ?_
      refine vm_r_aload_n rfl rfl rfl ?_
      refine vm_r_getI rfl (h0.g8 hd.1) ?_
      refine vm_r_ret rfl (fun h => by cases h) (vPM.pure h (by rw [if_neg (by decide), if_neg (by decide), if_neg (by decide), if_neg (by decide), if_neg (by decide), if_neg (by decide), if_neg (by decide), if_pos (by decide)]))
    | 8, _ =>
      refine vm_r_iload_n rfl rfl rfl ?_
      refine vm_r_br rfl (n' := 100) (vm_tsN (j := 8) (by decide) (by decide) rfl rfl) ?_
      refine vm_r_aload_n rfl rfl rfl ?_
      refine vm_r_getI rfl (h0.g10 he.1) ?_
      refine vm_r_ret rfl (fun h => by cases h) (vPM.pure h (by rw [if_neg (by decide), if_neg (by decide), if_neg (by decide), if_neg (by decide), if_neg (by decide), if_neg (by decide), if_neg (by decide), if_neg (by decide), if_pos (by decide)]))
    | 9, _ =>
      refine vm_r_iload_n rfl rfl rfl ?_
      refine vm_r_br rfl (n' := 105) (vm_tsN (j := 9) (by decide) (by decide) rfl rfl) ?_
      refine vm_r_aload_n rfl rfl rfl ?_
      refine vm_r_getI rfl (h0.g0 ha.1) ?_
      refine vm_r_ret rfl (fun h => by cases h) (vPM.pure h (by rw [if_neg (by decide), if_neg (by decide), if_neg (by decide), if_neg (by decide), if_neg (by decide), if_neg (by decide), if_neg (by decide), if_neg (by decide), if_neg (by decide), if_pos (by decide)]))
    | n + 10, hj => exact absurd hj (by omega)
  · refine vm_r_iload_n rfl rfl rfl ?_
    refine vm_r_br rfl (n' := 110) (vm_tsD (H := 9) hw (by decide) rfl) ?_
    refine vm_r_iconst rfl ?_
    refine vm_r_ret rfl (fun h => by cases h) (vPM.pure h (by rw [if_neg (fun q => hw (by rw [q]; decide)), if_neg (fun q => hw (by rw [q]; decide)), if_neg (fun q => hw (by rw [q]; decide)), if_neg (fun q => hw (by rw [q]; decide)), if_neg (fun q => hw (by rw [q]; decide)), if_neg (fun q => hw (by rw [q]; decide)), if_neg (fun q => hw (by rw [q]; decide)), if_neg (fun q => hw (by rw [q]; decide)), if_neg (fun q => hw (by rw [q]; decide)), if_neg (fun q => hw (by rw [q]; decide))]))
end MAPI3
