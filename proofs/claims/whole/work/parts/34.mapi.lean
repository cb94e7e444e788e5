/-! The model's methods: reading, acts, undone. -/
/-- the cells that hold; each piece of the state apart -/
theorem vMI.mk {I : Nat → Nat → Int32} {m : Nat} {z : vZ} (a : I m 0 = nI (zn z) ∧ ∀ j, j < zn z → I (m + 1) j = nI (zx z j)) (b : vTold (I (m + 2)) (zT z)) (c : vRow (I (m + 5)) (zT z))
  (d : I m 8 = nI (zp z) ∧ ∀ j, j < zp z → vRow (fun i => I (m + 7) (63 * j + i)) (zQ z j)) (e : I m 10 = nI (zk z) ∧ ∀ j, j < zk z → vRow (fun i => I (m + 8) (63 * j + i)) (zR z j))
  (f : I m 12 = nI (wN (zW z)) ∧ ∀ i, i < wN (zW z) → I (m + 9) (3 * i) = nI (wP (zW z) i) ∧ I (m + 9) (3 * i + 1) = nI (wG (zW z) i) ∧ I (m + 9) (3 * i + 2) = nI (wI (zW z) i))
  (g : I m 14 = nI (wM (zW z)) ∧ ∀ i, i < wM (zW z) → I (m + 10) (2 * i) = nI (wK (zW z) i) ∧ I (m + 10) (2 * i + 1) = nI (wS (zW z) i)) : vMI I m z := ⟨a, b, c, d, e, f, g⟩
section MAPI
variable {E : vm_V} {μ μ' : vm_M} {m : Nat} {z : vZ} {T : vt_T}
theorem vM.sd {μ1 : vm_M} (h : vM μ m z) (k : vt_ok (zT z)) (f : vf μ μ1 (m + 6) (m + 6)) (e : ∀ k, k < 63 → μ1.2.1 (m + 6) k = μ.2.1 (m + 5) k) : vSd μ1 m (zT z) :=
  ⟨by rw [f.1]; exact h.1, by rw [f.2.2 _ (by omega)]; exact h.2.2.1, h.2.2.2.1.cong k e, k⟩
theorem vM.now {U : vt_T} (h : vM μ m z) (f : vf μ μ' (m + 5) (m + 5)) (r : vRow (μ'.2.1 (m + 5)) U) (e : U.1 = (zT z).1 ∧ tK U = tK (zT z) ∧ tE U = tE (zT z)) : vM μ' m (U, (zp z, zQ z), (zk z, zR z), zW z, (zn z, zx z)) := by
  obtain ⟨h0, ha, hb, -, hd, he, hf, hg⟩ := h
  obtain ⟨f1, f2, f3⟩ := f
  refine ⟨by rw [f1]; exact h0, vMI.mk ?_ ?_ r ?_ ?_ ?_ ?_⟩
  · rw [f3 m (by omega), f3 (m + 1) (by omega)]; exact ha
  · rw [f3 (m + 2) (by omega)]; exact hb.up e
  · rw [f3 m (by omega), f3 (m + 7) (by omega)]; exact hd
  · rw [f3 m (by omega), f3 (m + 8) (by omega)]; exact he
  · rw [f3 m (by omega), f3 (m + 9) (by omega)]; exact hf
  · rw [f3 m (by omega), f3 (m + 10) (by omega)]; exact hg
theorem c_M_gate (h : vM μ m z) (k : vOk z) (g w : Int32) : vm_Ex E 3 n_M_gate [.ref m, .int g, .int w] 0 0 μ (vPM μ m (o_gate z g w)) := by
  have hG := k.1.1
  obtain ⟨⟨a1, a2⟩, b, c, d⟩ := h.2
  refine vm_start (D := 2) (by decide) rfl (Nat.le_of_ble_eq_true rfl) (k := k_M_gate) rfl (L := [.ref m, .int g, .int w]) rfl ?_
  refine vm_r_aload_n rfl rfl rfl ?_
  refine vm_r_iload_n rfl rfl rfl ?_
  refine vm_r_cv2I rfl (by decide) (h.1.ob) (Nat.le_of_ble_eq_true rfl) (vm_Ex_le (by first | exact Nat.le_of_ble_eq_true rfl | omega) (c_M_isGate h hG g)) ?_
  first | refine vm_r_if_eqB rfl (fun hg => ?_) (fun hg => ?_) | refine vm_r_if_eqN rfl (by omega) (fun hg => ?_) (fun hg => ?_) | refine vm_r_if_eq rfl (fun hg => ?_) (fun hg => ?_)
  · refine vm_r_iconst rfl ?_
    refine vm_r_ret rfl (fun h => by cases h) (vPM.pure h (by rw [if_neg (fun q => hg q.1)]))
  · refine vm_r_iload_n rfl rfl rfl ?_
    refine vm_r_i2l rfl ?_
    refine vm_r_lconst (kL := lN 0) rfl ?_
    refine vm_r_ldc2_w (kL := lN 6) rfl ?_
    refine vm_r_cs3I rfl (by decide) (Nat.le_of_ble_eq_true rfl) (vm_Ex_le (by first | exact Nat.le_of_ble_eq_true rfl | omega) (c_M_in (x := w) (lo := nI 0) (hi := nI 6) rfl (by decide) (by decide))) ?_
    first | refine vm_r_if_neB rfl (fun hw => ?_) (fun hw => ?_) | refine vm_r_if_neN rfl (by omega) (fun hw => ?_) (fun hw => ?_) | refine vm_r_if_ne rfl (fun hw => ?_) (fun hw => ?_)
    · have hv : vix g (tG (zT z)) ∧ vrg w 6 := ⟨hg, hw⟩
      obtain ⟨i, hi, rfl⟩ := vix_n (by omega) hg
      obtain ⟨j, hj, rfl⟩ := vrg_n (by decide) hw
      refine vm_r_iload_n rfl rfl rfl ?_
      refine vm_r_iconst (kI := nI 5) rfl ?_
      first | refine vm_r_icmp_geN rfl (by omega) (by omega) (fun e => ?_) (fun e => ?_) | refine vm_r_icmp_ge rfl (fun e => ?_) (fun e => ?_)
      · refine vm_r_aload_n rfl rfl rfl ?_
        refine vm_r_getR rfl (h.1.r2) ?_
        refine vm_r_iload_n rfl rfl rfl ?_
        refine vm_r_iconst (kI := nI 5) rfl ?_
        first | refine vm_r_icmp_neN rfl (by omega) (by omega) (fun f => ?_) (fun f => ?_) | refine vm_r_icmp_ne rfl (fun f => ?_) (fun f => ?_)
        · refine vm_r_bipush (kI := nI 7) rfl ?_
          refine vm_r_iload_n rfl rfl rfl ?_
          first | refine vm_r_iaddN rfl ?_ | refine vm_r_iadd rfl ?_
          refine vm_r_iaload rfl (h.1.s2) (by omega) (by omega) ((b.2.2 i hi).2) ?_
          refine vm_r_ret rfl (fun h => by cases h) (vPM.pure h (by rw [if_pos hv, nn_nI (by omega), nn_nI (by omega), if_neg (by omega), if_pos (by omega)]))
        · refine vm_r_iconst (kI := nI 2) rfl ?_
          refine vm_r_iload_n rfl rfl rfl ?_
          first | refine vm_r_iaddN rfl ?_ | refine vm_r_iadd rfl ?_
          refine vm_r_goto rfl ?_
          refine vm_r_iaload rfl (h.1.s2) (by omega) (by omega) ((b.2.2 i hi).1) ?_
          refine vm_r_ret rfl (fun h => by cases h) (vPM.pure h (by rw [if_pos hv, nn_nI (by omega), nn_nI (by omega), if_pos (by omega)]))
      · refine vm_r_aload_n rfl rfl rfl ?_
        refine vm_r_getR rfl (h.1.r5) ?_
        refine vm_r_iconst (kI := nI 5) rfl ?_
        refine vm_r_iload_n rfl rfl rfl ?_
        first | refine vm_r_imulN rfl ?_ | refine vm_r_imul rfl ?_
        refine vm_r_iload_n rfl rfl rfl ?_
        first | refine vm_r_iaddN rfl ?_ | refine vm_r_iadd rfl ?_
        refine vm_r_iaload rfl (h.1.s5) (by omega) (by omega) (c.1 i j hi (by omega)) ?_
        refine vm_r_goto rfl ?_
        refine vm_r_ret rfl (fun h => by cases h) (vPM.pure h (by rw [if_pos hv, nn_nI (by omega), nn_nI (by omega), if_neg (by omega), if_neg (by omega)]))
    · refine vm_r_iconst rfl ?_
      refine vm_r_ret rfl (fun h => by cases h) (vPM.pure h (by rw [if_neg (fun q => hw q.2)]))
theorem c_M_person (h : vM μ m z) (k : vOk z) (p w : Int32) : vm_Ex E 3 n_M_person [.ref m, .int p, .int w] 0 0 μ (vPM μ m (o_person z p w)) := by
  have hP := k.1.2.1
  obtain ⟨⟨a1, a2⟩, b, c, d⟩ := h.2
  refine vm_start (D := 2) (by decide) rfl (Nat.le_of_ble_eq_true rfl) (k := k_M_person) rfl (L := [.ref m, .int p, .int w]) rfl ?_
  refine vm_r_aload_n rfl rfl rfl ?_
  refine vm_r_iload_n rfl rfl rfl ?_
  refine vm_r_cv2I rfl (by decide) (h.1.ob) (Nat.le_of_ble_eq_true rfl) (vm_Ex_le (by first | exact Nat.le_of_ble_eq_true rfl | omega) (c_M_isPerson h hP p)) ?_
  first | refine vm_r_if_eqB rfl (fun hp => ?_) (fun hp => ?_) | refine vm_r_if_eqN rfl (by omega) (fun hp => ?_) (fun hp => ?_) | refine vm_r_if_eq rfl (fun hp => ?_) (fun hp => ?_)
  · refine vm_r_iconst rfl ?_
    refine vm_r_ret rfl (fun h => by cases h) (vPM.pure h (by rw [if_neg (fun q => hp q.1)]))
  · refine vm_r_iload_n rfl rfl rfl ?_
    refine vm_r_i2l rfl ?_
    refine vm_r_lconst (kL := lN 0) rfl ?_
    refine vm_r_ldc2_w (kL := lN 5) rfl ?_
    refine vm_r_cs3I rfl (by decide) (Nat.le_of_ble_eq_true rfl) (vm_Ex_le (by first | exact Nat.le_of_ble_eq_true rfl | omega) (c_M_in (x := w) (lo := nI 0) (hi := nI 5) rfl (by decide) (by decide))) ?_
    first | refine vm_r_if_neB rfl (fun hw => ?_) (fun hw => ?_) | refine vm_r_if_neN rfl (by omega) (fun hw => ?_) (fun hw => ?_) | refine vm_r_if_ne rfl (fun hw => ?_) (fun hw => ?_)
    · have hv : vix p (tP (zT z)) ∧ vrg w 5 := ⟨hp, hw⟩
      obtain ⟨i, hi, rfl⟩ := vix_n (by omega) hp
      obtain ⟨j, hj, rfl⟩ := vrg_n (by decide) hw
      refine vm_r_iload_n rfl rfl rfl ?_
      refine vm_r_iconst (kI := nI 5) rfl ?_
      first | refine vm_r_icmp_geN rfl (by omega) (by omega) (fun e => ?_) (fun e => ?_) | refine vm_r_icmp_ge rfl (fun e => ?_) (fun e => ?_)
      · refine vm_r_aload_n rfl rfl rfl ?_
        refine vm_r_getR rfl (h.1.r5) ?_
        refine vm_r_bipush (kI := nI 55) rfl ?_
        refine vm_r_iload_n rfl rfl rfl ?_
        first | refine vm_r_iaddN rfl ?_ | refine vm_r_iadd rfl ?_
        refine vm_r_iaload rfl (h.1.s5) (by omega) (by omega) (c.2.2.1 i hi) ?_
        refine vm_r_ret rfl (fun h => by cases h) (vPM.pure h (by rw [if_pos hv, nn_nI (by omega), nn_nI (by omega), if_pos (by omega)]))
      · refine vm_r_aload_n rfl rfl rfl ?_
        refine vm_r_getR rfl (h.1.r5) ?_
        refine vm_r_bipush (kI := nI 25) rfl ?_
        refine vm_r_iconst (kI := nI 5) rfl ?_
        refine vm_r_iload_n rfl rfl rfl ?_
        first | refine vm_r_imulN rfl ?_ | refine vm_r_imul rfl ?_
        first | refine vm_r_iaddN rfl ?_ | refine vm_r_iadd rfl ?_
        refine vm_r_iload_n rfl rfl rfl ?_
        first | refine vm_r_iaddN rfl ?_ | refine vm_r_iadd rfl ?_
        refine vm_r_iaload rfl (h.1.s5) (by omega) (by omega) (c.2.1 i j hi (by omega)) ?_
        refine vm_r_goto rfl ?_
        refine vm_r_ret rfl (fun h => by cases h) (vPM.pure h (by rw [if_pos hv, nn_nI (by omega), nn_nI (by omega), if_neg (by omega)]))
    · refine vm_r_iconst rfl ?_
      refine vm_r_ret rfl (fun h => by cases h) (vPM.pure h (by rw [if_neg (fun q => hw q.2)]))
theorem c_M_far (h : vM μ m z) (k : vOk z) (p g : Int32) : vm_Ex E 4 n_M_far [.ref m, .int p, .int g] 0 0 μ (vPM μ m (o_far z p g)) := by
  have hG := k.1.1
  have hP := k.1.2.1
  refine vm_start (D := 3) (by decide) rfl (Nat.le_of_ble_eq_true rfl) (k := k_M_far) rfl (L := [.ref m, .int p, .int g]) rfl ?_
  refine vm_r_aload_n rfl rfl rfl ?_
  refine vm_r_iload_n rfl rfl rfl ?_
  refine vm_r_cv2I rfl (by decide) (h.1.ob) (Nat.le_of_ble_eq_true rfl) (vm_Ex_le (by first | exact Nat.le_of_ble_eq_true rfl | omega) (c_M_isPerson h hP p)) ?_
  first | refine vm_r_if_eqB rfl (fun hp => ?_) (fun hp => ?_) | refine vm_r_if_eqN rfl (by omega) (fun hp => ?_) (fun hp => ?_) | refine vm_r_if_eq rfl (fun hp => ?_) (fun hp => ?_)
  · refine vm_r_iconst rfl ?_
    refine vm_r_ret rfl (fun h => by cases h) (vPM.pure h (by rw [if_neg (fun q => hp q.1)]))
  · refine vm_r_aload_n rfl rfl rfl ?_
    refine vm_r_iload_n rfl rfl rfl ?_
    refine vm_r_cv2I rfl (by decide) (h.1.ob) (Nat.le_of_ble_eq_true rfl) (vm_Ex_le (by first | exact Nat.le_of_ble_eq_true rfl | omega) (c_M_isGate h hG g)) ?_
    first | refine vm_r_if_neB rfl (fun hg => ?_) (fun hg => ?_) | refine vm_r_if_neN rfl (by omega) (fun hg => ?_) (fun hg => ?_) | refine vm_r_if_ne rfl (fun hg => ?_) (fun hg => ?_)
    · have hv : vix p (tP (zT z)) ∧ vix g (tG (zT z)) := ⟨hp, hg⟩
      obtain ⟨i, hi, rfl⟩ := vix_n (by omega) hp
      obtain ⟨j, hj, rfl⟩ := vix_n (by omega) hg
      refine vm_r_aload_n rfl rfl rfl ?_
      refine vm_r_cv1V rfl (by decide) (h.1.ob) (Nat.le_of_ble_eq_true rfl) (vm_Ex_le (by first | exact Nat.le_of_ble_eq_true rfl | omega) (c_M_aside h.1)) (fun μ1 q1 => ?_)
      obtain ⟨f1, e1⟩ := q1
      have s1 := h.sd k.1 f1 e1
      refine vm_r_aload_n rfl rfl rfl ?_
      refine vm_r_iload_n rfl rfl rfl ?_
      refine vm_r_iload_n rfl rfl rfl ?_
      refine vm_r_cv3X rfl (by decide) (s1.1.ob) (Nat.le_of_ble_eq_true rfl) (vm_Ex_le (by first | exact Nat.le_of_ble_eq_true rfl | omega) (c_M_farOf s1 hi hj)) (fun v2 μ2 q2 => ?_)
      obtain ⟨rfl, f2⟩ := q2
      refine vm_r_ret rfl (fun h => by cases h) (vPM.g h ((f1.g (by omega)).tr (f2.g (by omega))) (by rw [if_pos hv, nn_nI (by omega), nn_nI (by omega)]))
    · refine vm_r_iconst rfl ?_
      refine vm_r_ret rfl (fun h => by cases h) (vPM.pure h (by rw [if_neg (fun q => hg q.2)]))
/-- the last part of note -/
theorem c_M_note_aux {h8 : Nat} {Q : Nat → vt_T} (h : vM μ m (zT z, (h8, Q), (zk z, zR z), zW z, (zn z, zx z))) (k : vt_ok (zT z)) (hh : h8 < 8) (hq : ∀ j, j < h8 → vt_ok (Q j)) {Qf : Option Value → vm_M → Prop}
    (hQ : ∀ μ', vx μ μ' m (m + 15) → μ'.2.1 (m + 6) = μ.2.1 (m + 6) → vM μ' m (zT z, (h8 + 1, vu Q h8 (zT z)), (zk z, zR z), zW z, (zn z, zx z)) → Qf none μ') (v : Value) : vm_W E (vm_Ex E 0) k_M_note Qf (49, [.ref m, v], [], 0, 0, μ) := by
  obtain ⟨h0, ha, hb, hc, hd, he, hf, hg⟩ := h
  have h8' : μ.2.1 m 8 = nI h8 := hd.1
  refine vm_r_iconst (kI := nI 0) rfl ?_
  refine vm_r_istore_n1 rfl rfl rfl ?_
  refine vm_up (P := fun i => ∀ μ' : vm_M, vf μ μ' (m + 7) (m + 7) → (∀ k, k < i → μ'.2.1 (m + 7) (63 * h8 + k) = μ.2.1 (m + 5) k) → (∀ k, k < 63 * h8 → μ'.2.1 (m + 7) k = μ.2.1 (m + 7) k) → vm_W E (vm_Ex E 0) k_M_note _ (51, [.ref m, .int (nI i)], [], 0, 0, μ')) (N := 63) ?_ ?_ 0 (by omega) μ vf.rf (fun k hk => by omega) (fun _ _ => rfl)
  · intro μ' f e1 e2
    have h' : vMh μ'.1 m := by rw [f.1]; exact h0
    have g8 : μ'.2.1 m 8 = nI h8 := by rw [f.2.2 _ (by omega)]; exact h8'
    refine vm_r_iload_n rfl rfl rfl ?_
    refine vm_r_bipush (kI := nI 63) rfl ?_
    first | refine vm_r_icmp_geN rfl (by omega) (by omega) (fun _ => ?_) (fun hn => absurd hn (by omega)) | refine vm_r_icmp_ge rfl (fun _ => ?_) (fun hn => absurd hn (by omega))
    refine vm_r_aload_n rfl rfl rfl ?_
    refine vm_r_dup rfl rfl ?_
    refine vm_r_getI rfl (h'.g8 g8) ?_
    refine vm_r_iconst (kI := nI 1) rfl ?_
    first | refine vm_r_iaddN rfl ?_ | refine vm_r_iadd rfl ?_
    refine vm_r_putI rfl (h'.w8) ?_
    refine vm_r_vret rfl (hQ _ ?_ ?_ ⟨h', ?_⟩)
    · exact (f.wd (by omega) (by omega)).tr (vf.mI (Nat.le_refl m) (by omega) : vf _ _ m (m + 15)) |>.x
    · rw [rI_no2 (by omega), f.2.2 _ (by omega)]
    · have g : ∀ o, o ≠ m → o ≠ m + 7 → (vm_mI μ' m 8 (nI (h8 + 1))).2.1 o = μ.2.1 o := fun o o1 o2 => by rw [rI_no2 o1, f.2.2 _ (by omega)]
      have gm : ∀ k, k ≠ 8 → (vm_mI μ' m 8 (nI (h8 + 1))).2.1 m k = μ.2.1 m k := fun k o1 => by rw [rI_nk o1, f.2.2 _ (by omega)]
      refine vMI.mk ?_ ?_ ?_ ⟨rI_eq, fun j hj => ?_⟩ ?_ ?_ ?_
      · rw [gm 0 (by omega), g _ (by omega) (by omega)]; exact ha
      · rw [g _ (by omega) (by omega)]; exact hb
      · rw [g _ (by omega) (by omega)]; exact hc
      · have hj : j < h8 + 1 := hj
        show vRow (fun i => (vm_mI μ' m 8 (nI (h8 + 1))).2.1 (m + 7) (63 * j + i)) (vu Q h8 (zT z) j)
        by_cases y : j = h8
        · subst y
          rw [vu_eq]
          refine vRow.cong hc k (fun i hi => ?_)
          show (vm_mI μ' m 8 (nI (j + 1))).2.1 (m + 7) (63 * j + i) = _
          rw [rI_no (by omega)]
          exact e1 i hi
        · rw [vu_ne y]
          refine vRow.cong (hd.2 j (by show j < h8; omega)) (hq j (by omega)) (fun i hi => ?_)
          show (vm_mI μ' m 8 (nI (h8 + 1))).2.1 (m + 7) (63 * j + i) = _
          rw [rI_no (by omega)]
          exact e2 _ (by omega)
      · rw [gm 10 (by omega), g (m + 8) (by omega) (by omega)]; exact he
      · rw [gm 12 (by omega), g (m + 9) (by omega) (by omega)]; exact hf
      · rw [gm 14 (by omega), g (m + 10) (by omega) (by omega)]; exact hg
  · intro i hi ih μ' f e1 e2
    have h' : vMh μ'.1 m := by rw [f.1]; exact h0
    have g8 : μ'.2.1 m 8 = nI h8 := by rw [f.2.2 _ (by omega)]; exact h8'
    refine vm_r_iload_n rfl rfl rfl ?_
    refine vm_r_bipush (kI := nI 63) rfl ?_
    first | refine vm_r_icmp_geN rfl (by omega) (by omega) (fun hn => absurd hn (by omega)) (fun _ => ?_) | refine vm_r_icmp_ge rfl (fun hn => absurd hn (by omega)) (fun _ => ?_)
    refine vm_r_aload_n rfl rfl rfl ?_
    refine vm_r_getR rfl (h'.r7) ?_
    refine vm_r_bipush (kI := nI 63) rfl ?_
    refine vm_r_aload_n rfl rfl rfl ?_
    refine vm_r_getI rfl (h'.g8 g8) ?_
    first | refine vm_r_imulN rfl ?_ | refine vm_r_imul rfl ?_
    refine vm_r_iload_n rfl rfl rfl ?_
    first | refine vm_r_iaddN rfl ?_ | refine vm_r_iadd rfl ?_
    refine vm_r_aload_n rfl rfl rfl ?_
    refine vm_r_getR rfl (h'.r5) ?_
    refine vm_r_iload_n rfl rfl rfl ?_
    refine vm_r_iaload rfl (h'.s5) (by omega) (by omega) (rfl) ?_
    refine vm_r_iastore rfl (h'.s7) (by omega) (by omega) ?_
    first | refine vm_r_iinc1N (y := 1) rfl rfl ?_ | refine vm_r_iinc1 rfl rfl ?_
    refine vm_r_goto rfl ?_
    refine ih _ (f.tr (vf.mI (Nat.le_refl _) (Nat.le_refl _))) (fun k hk => ?_) (fun k hk => ?_)
    · by_cases y : k = i
      · subst y
        rw [rI_eq, f.2.2 _ (by omega)]
      · rw [rI_nk (by omega)]
        exact e1 k (by omega)
    · rw [rI_nk (by omega)]
      exact e2 k hk
theorem c_M_note (h : vM μ m z) (k : vOk z) (hq : ∀ j, j < zp z → vt_ok (zQ z j)) : vm_Ex E 1 n_M_note [.ref m] 0 0 μ (vm_PV (fun μ' => vx μ μ' m (m + 15) ∧ μ'.2.1 (m + 6) = μ.2.1 (m + 6) ∧ vM μ' m (zput z (zT z)))) := by
  have hp := k.2.2.2.1
  have h0 := h.1
  refine vm_start (D := 0) (by decide) rfl (Nat.le_of_ble_eq_true rfl) (k := k_M_note) rfl (L := [.ref m, .retAddr 0]) rfl ?_
  refine vm_r_aload_n rfl rfl rfl ?_
  refine vm_r_getI rfl (h.1.g8 h.2.2.2.2.1.1) ?_
  refine vm_r_bipush (kI := nI 8) rfl ?_
  first | refine vm_r_icmp_neN rfl (by omega) (by omega) (fun e => ?_) (fun e => ?_) | refine vm_r_icmp_ne rfl (fun e => ?_) (fun e => ?_)
  · refine c_M_note_aux (h8 := zp z) (Q := zQ z) h k.1 (by omega) hq (fun μ' x1 e1 h1 => ⟨rfl, x1, e1, ?_⟩) _
    unfold zput vpuh vput
    rw [if_pos (by omega), if_pos (by omega)]
    exact h1
  · obtain ⟨-, ha, hb, hc, hd, he, hf, hg⟩ := h
    refine vm_r_iconst (kI := nI 0) rfl ?_
    refine vm_r_istore_n1 rfl rfl rfl ?_
    refine vm_up (P := fun i => ∀ μ' : vm_M, vf μ μ' (m + 7) (m + 7) → (∀ k, k < i → μ'.2.1 (m + 7) k = μ.2.1 (m + 7) (63 + k)) → (∀ k, i ≤ k → μ'.2.1 (m + 7) k = μ.2.1 (m + 7) k) → vm_W E (vm_Ex E 0) k_M_note _ (11, [.ref m, .int (nI i)], [], 0, 0, μ')) (N := 441) ?_ ?_ 0 (by omega) μ vf.rf (fun k hk => by omega) (fun _ _ => rfl)
    · intro μ' f e1 e2
      have h' : vMh μ'.1 m := by rw [f.1]; exact h0
      have g8 : μ'.2.1 m 8 = nI (zp z) := by rw [f.2.2 _ (by omega)]; exact hd.1
      refine vm_r_iload_n rfl rfl rfl ?_
      refine vm_r_sipush (kI := nI 441) rfl ?_
      first | refine vm_r_icmp_geN rfl (by omega) (by omega) (fun _ => ?_) (fun hn => absurd hn (by omega)) | refine vm_r_icmp_ge rfl (fun _ => ?_) (fun hn => absurd hn (by omega))
      refine vm_r_aload_n rfl rfl rfl ?_
      refine vm_r_dup rfl rfl ?_
      refine vm_r_getI rfl (h'.g8 g8) ?_
      refine vm_r_iconst (kI := nI 1) rfl ?_
      first | refine vm_r_isubN rfl (by omega) ?_ | refine vm_r_isub rfl ?_
      refine vm_r_putI rfl (h'.w8) ?_
      have g : ∀ o, o ≠ m → o ≠ m + 7 → (vm_mI μ' m 8 (nI (zp z - 1))).2.1 o = μ.2.1 o := fun o o1 o2 => by rw [rI_no2 o1, f.2.2 _ (by omega)]
      have gm : ∀ k, k ≠ 8 → (vm_mI μ' m 8 (nI (zp z - 1))).2.1 m k = μ.2.1 m k := fun k o1 => by rw [rI_nk o1, f.2.2 _ (by omega)]
      have h1 : vM (vm_mI μ' m 8 (nI (zp z - 1))) m (zT z, (zp z - 1, fun j => zQ z (j + 1)), (zk z, zR z), zW z, (zn z, zx z)) := by
        refine ⟨h', vMI.mk ?_ ?_ ?_ ⟨rI_eq, fun j hj => ?_⟩ ?_ ?_ ?_⟩
        · rw [gm 0 (by omega), g _ (by omega) (by omega)]; exact ha
        · rw [g _ (by omega) (by omega)]; exact hb
        · rw [g _ (by omega) (by omega)]; exact hc
        · have hj : j < zp z - 1 := hj
          refine vRow.cong (hd.2 (j + 1) (by omega)) (hq (j + 1) (by omega)) (fun i hi => ?_)
          show (vm_mI μ' m 8 (nI (zp z - 1))).2.1 (m + 7) (63 * j + i) = _
          rw [rI_no (by omega), e1 _ (by omega), show 63 + (63 * j + i) = 63 * (j + 1) + i by omega]
        · rw [gm 10 (by omega), g (m + 8) (by omega) (by omega)]; exact he
        · rw [gm 12 (by omega), g (m + 9) (by omega) (by omega)]; exact hf
        · rw [gm 14 (by omega), g (m + 10) (by omega) (by omega)]; exact hg
      refine c_M_note_aux h1 k.1 (by omega) (fun j hj => hq (j + 1) (by omega)) (fun μ2 x2 e3 h2 => ⟨rfl, ?_, ?_, ?_⟩) _
      · exact ((f.wd (by omega) (by omega)).tr (vf.mI (Nat.le_refl m) (by omega) : vf _ _ m (m + 15)) |>.x).tr x2
      · rw [e3, g _ (by omega) (by omega)]
      · unfold zput vpuh vput
        rw [if_neg (by omega), if_neg (by omega)]
        have e5 : (fun j => if j + 1 = 8 then zT z else zQ z (j + 1)) = vu (fun j => zQ z (j + 1)) (zp z - 1) (zT z) := by
          funext j
          unfold vu
          by_cases e : j + 1 = 8
          · rw [if_pos e, if_pos (by omega)]
          · rw [if_neg e, if_neg (by omega)]
        rw [e5]
        rw [show zp z - 1 + 1 = 8 by omega] at h2
        exact h2
    · intro i hi ih μ' f e1 e2
      have h' : vMh μ'.1 m := by rw [f.1]; exact h0
      refine vm_r_iload_n rfl rfl rfl ?_
      refine vm_r_sipush (kI := nI 441) rfl ?_
      first | refine vm_r_icmp_geN rfl (by omega) (by omega) (fun hn => absurd hn (by omega)) (fun _ => ?_) | refine vm_r_icmp_ge rfl (fun hn => absurd hn (by omega)) (fun _ => ?_)
      refine vm_r_aload_n rfl rfl rfl ?_
      refine vm_r_getR rfl (h'.r7) ?_
      refine vm_r_iload_n rfl rfl rfl ?_
      refine vm_r_aload_n rfl rfl rfl ?_
      refine vm_r_getR rfl (h'.r7) ?_
      refine vm_r_bipush (kI := nI 63) rfl ?_
      refine vm_r_iload_n rfl rfl rfl ?_
      first | refine vm_r_iaddN rfl ?_ | refine vm_r_iadd rfl ?_
      refine vm_r_iaload rfl (h'.s7) (by omega) (by omega) (rfl) ?_
      refine vm_r_iastore rfl (h'.s7) (by omega) (by omega) ?_
      first | refine vm_r_iinc1N (y := 1) rfl rfl ?_ | refine vm_r_iinc1 rfl rfl ?_
      refine vm_r_goto rfl ?_
      refine ih _ (f.tr (vf.mI (Nat.le_refl _) (Nat.le_refl _))) (fun k hk => ?_) (fun k hk => ?_)
      · by_cases y : k = i
        · subst y
          rw [rI_eq]
          exact e2 _ (by omega)
        · rw [rI_nk (by omega)]
          exact e1 k (by omega)
      · rw [rI_nk (by omega)]
        exact e2 k (by omega)
end MAPI
