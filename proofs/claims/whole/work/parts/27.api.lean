/-! The class's methods. -/
section API
variable {E : vm_V} {μ : vm_M} {x : Nat} {z : vZ}
theorem vix_n {p : Int32} {n : Nat} (hn : n < 2 ^ 31) (h : 0 ≤ p ∧ p < nI n) : ∃ j, j < n ∧ p = nI j := (vix_iff hn).mp h
theorem vrg_n {p : Int32} {n : Nat} (hn : n < 2 ^ 31) (h : nI 0 ≤ p ∧ p ≤ nI n) : ∃ j, j ≤ n ∧ p = nI j := (vrg_iff hn).mp h
theorem c_SC_append {s a n c : Nat} {y : Nat → Nat} (h : vS μ s y n a) (hc : c < 128) : vm_Ex E 1 n_SC_append [.ref s, .int (nI c)] 0 0 μ (vm_PX (fun v μ' => v = vm_bi (n < 200) ∧ vx μ μ' s (s + 1) ∧ (n < 200 → vS μ' s (vu y n c) (n + 1) a) ∧ (¬ n < 200 → μ' = μ))) := by
  have hn := h.n200
  refine vm_start (D := 0) (by decide) rfl (Nat.le_of_ble_eq_true rfl) (k := k_SC_append) rfl (L := [.ref s, .int (nI c)]) rfl ?_
  refine vm_r_aload_n rfl rfl rfl ?_
  refine vm_r_getI rfl (h.gN) ?_
  refine vm_r_sipush (kI := nI 200) rfl ?_
  first | refine vm_r_icmp_ltN rfl (by omega) (by omega) (fun e => ?_) (fun e => ?_) | refine vm_r_icmp_lt rfl (fun e => ?_) (fun e => ?_)
  · have g1 : vm_gI (vm_mI μ (s + 1) n (nI c)) s 2 1 (nI n) := ⟨_, h.1.1, rfl, by rw [rI_no (by omega)]; exact h.2.2.1⟩
    refine vm_r_aload_n rfl rfl rfl ?_
    refine vm_r_getR rfl (h.r0) ?_
    refine vm_r_aload_n rfl rfl rfl ?_
    refine vm_r_getI rfl (h.gN) ?_
    refine vm_r_iload_n rfl rfl rfl ?_
    refine vm_r_castore rfl (h.sh) (by omega) (by omega) ((by rw [show vp_nar .char (nI c) = nI c from Value.int.inj (pk_charN (by omega)).1])) ?_
    refine vm_r_aload_n rfl rfl rfl ?_
    refine vm_r_dup rfl rfl ?_
    refine vm_r_getI rfl (g1) ?_
    refine vm_r_iconst (kI := nI 1) rfl ?_
    first | refine vm_r_iaddN rfl ?_ | refine vm_r_iadd rfl ?_
    refine vm_r_putI rfl (h.wN) ?_
    refine vm_r_iconst (kI := nI 1) rfl ?_
    refine vm_r_ret rfl (fun _ => by first | exact vm_bi_01 _ | decide) (⟨_, rfl, (vm_bi_t e).symm, ((vf.mI (by omega) (by omega)).tr (vf.mI (by omega) (by omega))).x, fun _ => ⟨h.1, ⟨by omega, fun j hj => ?_⟩, rI_eq, ?_, fun j hj => ?_⟩, fun z => absurd e z⟩)
    · unfold vu
      split
      · exact hc
      · exact h.x128 (by omega)
    · rw [rI_nk (by decide), rI_no (by omega)]
      exact h.2.2.2.1
    · rw [rI_no (by omega)]
      exact rI_u rfl fun q => h.v (by omega)
  · refine vm_r_iconst (kI := nI 0) rfl ?_
    refine vm_r_ret rfl (fun _ => by first | exact vm_bi_01 _ | decide) (⟨_, rfl, (vm_bi_f (by omega)).symm, vx.rf, fun z => absurd z (by omega), fun _ => rfl⟩)
theorem c_G_write (h : vXS μ x z) (c : Int32) : vm_Ex E 2 n_G_write [.ref x, .int c] 0 0 μ (vPG μ x (o_write z c)) := by
  obtain ⟨a, hs⟩ := h.2.1
  have hn := hs.n200
  unfold o_write
  refine vm_start (D := 1) (by decide) rfl (Nat.le_of_ble_eq_true rfl) (k := k_G_write) rfl (L := [.ref x, .int c]) rfl ?_
  refine vm_r_iload_n rfl rfl rfl ?_
  refine vm_r_bipush (kI := nI 32) rfl ?_
  refine vm_r_bipush (kI := nI 126) rfl ?_
  refine vm_r_cs3I rfl (by decide) (Nat.le_of_ble_eq_true rfl) (vm_Ex_le (by first | exact Nat.le_of_ble_eq_true rfl | omega) (c_G_within _ _ _)) ?_
  first | refine vm_r_if_neB rfl (fun e => ?_) (fun e => ?_) | refine vm_r_if_neN rfl (by omega) (fun e => ?_) (fun e => ?_) | refine vm_r_if_ne rfl (fun e => ?_) (fun e => ?_)
  · have e' : 32 ≤ c ∧ c ≤ 126 := e
    obtain ⟨j, hj, rfl⟩ := (vrg_iff (x := c) (n := 126) (by decide)).mp ⟨Int32.le_trans (by decide) e'.1, e'.2⟩
    rw [if_pos e', nn_nI (by omega)]
    have ec : ((nI j).toUInt32 % 65536).toInt32 = nI j := by
      have := pk_char (nI j)
      rw [pk_tn (by omega), Nat.mod_eq_of_lt (by omega)] at this
      exact this
    refine vm_r_aload_n rfl rfl rfl ?_
    refine vm_r_getR rfl (h.r0) ?_
    refine vm_r_iload_n rfl rfl rfl ?_
    refine vm_r_i2c rfl ?_
    refine vm_r_top (ec) ?_
    refine vm_r_cv2X rfl (by decide) (hs.ob) (Nat.le_of_ble_eq_true rfl) (vm_Ex_le (by first | exact Nat.le_of_ble_eq_true rfl | omega) (c_SC_append hs (by omega))) (fun v1 μ1 q1 => ?_)
    obtain ⟨rfl, x1, g1, g2⟩ := q1
    first | refine vm_r_if_eqB rfl (fun f => ?_) (fun f => ?_) | refine vm_r_if_eqN rfl (by omega) (fun f => ?_) (fun f => ?_) | refine vm_r_if_eq rfl (fun f => ?_) (fun f => ?_)
    · rw [if_neg f]
      obtain rfl := g2 f
      refine vm_r_bipush rfl ?_
      refine vm_r_ret rfl (fun h => by cases h) (vPG.pure h rfl)
    · rw [if_pos f]
      have hs1 := g1 f
      have h1 := h.scr x1 hs1
      refine vm_r_aload_n rfl rfl rfl ?_
      refine vm_r_getR rfl (h1.r0) ?_
      refine vm_r_getI rfl (hs1.gN) ?_
      refine vm_r_goto rfl ?_
      refine vm_r_ret rfl (fun h => by cases h) (⟨_, rfl, rfl, x1.wd (by omega) (by omega), h1⟩)
  · rw [if_neg (show ¬ (32 ≤ c ∧ c ≤ 126) from e)]
    refine vm_r_iconst rfl ?_
    refine vm_r_ret rfl (fun h => by cases h) (vPG.pure h rfl)
theorem c_G_wipe (h : vXS μ x z) : vm_Ex E 1 n_G_wipe [.ref x] 0 0 μ (vPG μ x (o_wipe z)) := by
  obtain ⟨a, hs⟩ := h.2.1
  have e : vS (vm_mI μ (x + 1) 1 (nI 0)) (x + 1) (zx z) 0 a := by
    refine ⟨hs.1, ⟨by decide, fun j hj => absurd hj (Nat.not_lt_zero j)⟩, rI_eq, ?_, fun j hj => absurd hj (Nat.not_lt_zero j)⟩
    rw [rI_nk (by decide)]
    exact hs.2.2.2.1
  have f : vx μ (vm_mI μ (x + 1) 1 (nI 0)) (x + 1) (x + 2) := (vf.mI (by omega) (by omega)).x
  refine vm_start (D := 0) (by decide) rfl (Nat.le_of_ble_eq_true rfl) (k := k_G_wipe) rfl (L := [.ref x, .retAddr 0]) rfl ?_
  refine vm_r_aload_n rfl rfl rfl ?_
  refine vm_r_getR rfl (h.r0) ?_
  refine vm_r_getI rfl (hs.gN) ?_
  refine vm_r_istore_n1 rfl rfl rfl ?_
  refine vm_r_aload_n rfl rfl rfl ?_
  refine vm_r_getR rfl (h.r0) ?_
  refine vm_r_iconst (kI := nI 0) rfl ?_
  refine vm_r_putI rfl (hs.wN) ?_
  refine vm_r_iload_n rfl rfl rfl ?_
  refine vm_r_ret rfl (fun h => by cases h) (⟨_, rfl, rfl, f.wd (by omega) (by omega), h.scr f e⟩)
theorem vXS.rd {μ' : vm_M} (h : vXS μ x z) (f : vf2 μ μ' (x + 1) (x + 9)) {n a : Nat} {y : Nat → Nat} (hs : vS μ' (x + 1) y n a) (ey : y = zx z) (en : n = zn z) : vXS μ' x z := by
  subst ey
  subst en
  have g : ∀ o, o ≠ x + 1 → (o < x + 9 ∨ x + 14 < o) → μ'.2.1 o = μ.2.1 o := f.2.2
  obtain ⟨h1, h2, h3, h4, ⟨f5, h5⟩, ⟨f6, h6⟩, h7, ⟨h8, h8'⟩, ⟨st, h9⟩⟩ := h
  have k1 : vx μ μ' (x + 1) (x + 14) := f.x (by omega) (by omega) (by omega) (by omega)
  have ht : vt_C μ' (x + 3) (zT z) := by
    obtain ⟨a1, a2, a3, a4, a5, a6, a7, a8⟩ := h3
    refine ⟨by rw [f.1]; exact a1, a2, by rw [g _ (by omega) (by omega)]; exact a3, by rw [g _ (by omega) (by omega)]; exact a4, by rw [g _ (by omega) (by omega)]; exact a5, by rw [g _ (by omega) (by omega)]; exact a6, fun j hj => ?_, fun j hj => ?_⟩
    · rw [g _ (by omega) (by omega), g _ (by omega) (by omega), g _ (by omega) (by omega)]
      exact a7 j hj
    · rw [g _ (by omega) (by omega), g _ (by omega) (by omega)]
      exact a8 j hj
  exact ⟨by rw [f.1]; exact h1, ⟨_, hs⟩, ht, by rw [f.1]; exact h4, ⟨f5, h5.keepx k1 (by omega)⟩, ⟨f6, h6.keepx k1 (by omega)⟩, h7.keepx k1 (by omega), ⟨h8.keepx k1 (by omega), fun j hj => by rw [(k1.2.2 _ (by omega)).1]; exact h8' j hj⟩, ⟨st, h9.keepx k1 (by omega)⟩⟩
theorem c_G_fault (h : vXS μ x z) : vm_Ex E 6 n_G_fault [.ref x] 0 0 μ (vPG μ x (o_fault z)) := by
  obtain ⟨a, hs⟩ := h.2.1
  refine vm_start (D := 5) (by decide) rfl (Nat.le_of_ble_eq_true rfl) (k := k_G_fault) rfl (L := [.ref x]) rfl ?_
  refine vm_r_aload_n rfl rfl rfl ?_
  refine vm_r_getR rfl (h.r0) ?_
  refine vm_r_aload_n rfl rfl rfl ?_
  refine vm_r_getR rfl (h.r2) ?_
  refine vm_r_cv2X rfl (by decide) (hs.ob) (Nat.le_of_ble_eq_true rfl) (vm_Ex_le (by first | exact Nat.le_of_ble_eq_true rfl | omega) (c_SC_readInto hs h.2.2.2.1 (by omega))) (fun v1 μ1 q1 => ?_)
  obtain ⟨f1, rfl, ⟨a1, hs1⟩, -⟩ := q1
  refine vm_r_ret rfl (fun h => by cases h) (⟨_, rfl, rfl, f1.x (by omega) (by omega) (by omega) (by omega), h.rd f1 hs1 rfl rfl⟩)
theorem pA_lt {y : Nat → Nat} {n : Nat} : ∀ (f : Nat) (T : vt_T) (a b : Nat), (pA y n f T a).1 = some b → b < n
  | 0, _, _, _, h => by cases h
  | f + 1, T, a, b, h => by
    rw [pA_s] at h
    by_cases e : a < n
    · rw [if_pos e] at h
      split at h
      · split at h
        · exact pA_lt f _ _ b h
        · cases h
          exact e
      · split at h
        · split at h
          · exact pA_lt f _ _ b h
          · cases h
            exact e
        · cases h
          exact e
    · rw [if_neg e] at h
      cases h
theorem c_G_lay (h : vXS μ x z) : vm_Ex E 6 n_G_lay [.ref x] 0 0 μ (vPG μ x (o_lay z)) := by
  obtain ⟨a, hs⟩ := h.2.1
  unfold o_lay
  refine vm_start (D := 5) (by decide) rfl (Nat.le_of_ble_eq_true rfl) (k := k_G_lay) rfl (L := [.ref x]) rfl ?_
  refine vm_r_aload_n rfl rfl rfl ?_
  refine vm_r_getR rfl (h.r0) ?_
  refine vm_r_aload_n rfl rfl rfl ?_
  refine vm_r_getR rfl (h.r2) ?_
  refine vm_r_cv2X rfl (by decide) (hs.ob) (Nat.le_of_ble_eq_true rfl) (vm_Ex_le (by first | exact Nat.le_of_ble_eq_true rfl | omega) (c_SC_readInto hs h.2.2.2.1 (by omega))) (fun v1 μ1 q1 => ?_)
  obtain ⟨f1, rfl, ⟨a1, hs1⟩, hok⟩ := q1
  have h1 := h.rd f1 hs1 rfl rfl
  have x1 : vx μ μ1 x (x + 95) := f1.x (by omega) (by omega) (by omega) (by omega)
  have eA : zA z = pA (zx z) (zn z) 200 vt0 0 := rfl
  have hlt : ∀ b, (pA (zx z) (zn z) 200 vt0 0).1 = some b → b < zn z := fun b hb => pA_lt 200 vt0 0 b hb
  have hn200 := hs1.n200
  rw [eA]
  generalize pA (zx z) (zn z) 200 vt0 0 = r at hok hlt ⊢
  obtain ⟨o, U⟩ := r
  have no : ¬ (o = none ∧ 0 < tG U ∧ 0 < tP U) → vPG μ x (if o = none ∧ 0 < tG U ∧ 0 < tP U then (nI (tP U), (U, (0, zQ z), (0, zR z), vw0 (zW z), (zn z, zx z))) else (-2, z)) (some (.int (-2))) μ1 := fun q => ⟨_, rfl, by rw [if_neg q], x1, by rw [if_neg q]; exact h1⟩
  cases o with
  | some b =>
    refine vm_r_bipush rfl ?_
    refine vm_r_icmp_ne rfl (fun e => ?_) (fun e => ?_)
    · refine vm_r_bipush rfl ?_
      refine vm_r_ret rfl (fun h => by cases h) (no (fun q => by cases q.1))
    · exact absurd (Classical.not_not.mp e) (v_nI4 (by have := hlt b rfl; omega))
  | none =>
    have hU : vt_C μ1 (x + 9) U := hok rfl
    have hG := hU.ok.G5
    have hP := hU.ok.P6
    refine vm_r_bipush rfl ?_
    refine vm_r_icmp_ne rfl (fun hn => absurd hn (not_not_intro rfl)) (fun _ => ?_)
    refine vm_r_aload_n rfl rfl rfl ?_
    refine vm_r_getR rfl (h1.r2) ?_
    refine vm_r_getI rfl (hU.gG) ?_
    refine vm_r_iconst (kI := nI 1) rfl ?_
    first | refine vm_r_icmp_ltN rfl (by omega) (by omega) (fun e => ?_) (fun e => ?_) | refine vm_r_icmp_lt rfl (fun e => ?_) (fun e => ?_)
    · refine vm_r_bipush rfl ?_
      refine vm_r_ret rfl (fun h => by cases h) (no (fun q => by omega))
    · refine vm_r_aload_n rfl rfl rfl ?_
      refine vm_r_getR rfl (h1.r2) ?_
      refine vm_r_getI rfl (hU.gP) ?_
      refine vm_r_iconst (kI := nI 1) rfl ?_
      first | refine vm_r_icmp_geN rfl (by omega) (by omega) (fun f => ?_) (fun f => ?_) | refine vm_r_icmp_ge rfl (fun f => ?_) (fun f => ?_)
      · rw [if_pos (show (none : Option Nat) = none ∧ 0 < tG U ∧ 0 < tP U from ⟨rfl, by omega, by omega⟩)]
        refine vm_r_aload_n rfl rfl rfl ?_
        refine vm_r_getR rfl (h1.r1) ?_
        refine vm_r_aload_n rfl rfl rfl ?_
        refine vm_r_getR rfl (h1.r2) ?_
        refine vm_r_cv2V rfl (by decide) (h1.t.s.ob) (Nat.le_of_ble_eq_true rfl) (vm_Ex_le (by first | exact Nat.le_of_ble_eq_true rfl | omega) (c_TN_copyFrom h1.t.s hU (by omega))) (fun μ2 q2 => ?_)
        obtain ⟨f2, ht2⟩ := q2
        have h2 := h1.twn f2.x ht2
        refine vm_r_aload_n rfl rfl rfl ?_
        refine vm_r_getR rfl (h2.r5) ?_
        refine vm_r_cv1V rfl (by decide) (h2.w.ob) (Nat.le_of_ble_eq_true rfl) (vm_Ex_le (by first | exact Nat.le_of_ble_eq_true rfl | omega) (c_WI_clear h2.w)) (fun μ3 q3 => ?_)
        obtain ⟨f3, hw3⟩ := q3
        have h3 := h2.wit (f3.x.wd (by omega) (by omega)) hw3
        obtain ⟨f5, h5⟩ := h3.2.2.2.2.1
        refine vm_r_aload_n rfl rfl rfl ?_
        refine vm_r_getR rfl (h3.r3) ?_
        refine vm_r_cv1V rfl (by decide) (h5.ob) (Nat.le_of_ble_eq_true rfl) (vm_Ex_le (by first | exact Nat.le_of_ble_eq_true rfl | omega) (c_SH_clear h5)) (fun μ4 q4 => ?_)
        obtain ⟨f4, hp4⟩ := q4
        have h4 := h3.pst (f4.x.wd (by omega) (by omega)) hp4
        obtain ⟨f6, h6⟩ := h4.2.2.2.2.2.1
        refine vm_r_aload_n rfl rfl rfl ?_
        refine vm_r_getR rfl (h4.r4) ?_
        refine vm_r_cv1V rfl (by decide) (h6.ob) (Nat.le_of_ble_eq_true rfl) (vm_Ex_le (by first | exact Nat.le_of_ble_eq_true rfl | omega) (c_SH_clear h6)) (fun μ5 q5 => ?_)
        obtain ⟨f7, hk5⟩ := q5
        have h5 := h4.kpt (f7.x.wd (by omega) (by omega)) hk5
        refine vm_r_aload_n rfl rfl rfl ?_
        refine vm_r_getR rfl (h5.r1) ?_
        refine vm_r_getI rfl (h5.t.gP) ?_
        refine vm_r_ret rfl (fun h => by cases h) (⟨_, rfl, rfl, ?_, h5⟩)
        exact (((x1.tr (f2.x.wd (by omega) (by omega))).tr (f3.x.wd (by omega) (by omega))).tr (f4.x.wd (by omega) (by omega))).tr (f7.x.wd (by omega) (by omega))
      · refine vm_r_bipush rfl ?_
        refine vm_r_ret rfl (fun h => by cases h) (no (fun q => by omega))
theorem c_G_gate (h : vXS μ x z) (g w : Int32) : vm_Ex E 2 n_G_gate [.ref x, .int g, .int w] 0 0 μ (vPG μ x (o_gate z g w)) := by
  have hG := h.t.ok.G5
  refine vm_start (D := 1) (by decide) rfl (Nat.le_of_ble_eq_true rfl) (k := k_G_gate) rfl (L := [.ref x, .int g, .int w]) rfl ?_
  refine vm_r_aload_n rfl rfl rfl ?_
  refine vm_r_getR rfl (h.r1) ?_
  refine vm_r_iload_n rfl rfl rfl ?_
  refine vm_r_cv2I rfl (by decide) (h.t.s.ob) (Nat.le_of_ble_eq_true rfl) (vm_Ex_le (by first | exact Nat.le_of_ble_eq_true rfl | omega) (c_TN_isGate h.t g)) ?_
  first | refine vm_r_if_eqB rfl (fun hg => ?_) (fun hg => ?_) | refine vm_r_if_eqN rfl (by omega) (fun hg => ?_) (fun hg => ?_) | refine vm_r_if_eq rfl (fun hg => ?_) (fun hg => ?_)
  · refine vm_r_iconst rfl ?_
    refine vm_r_ret rfl (fun h => by cases h) (vPG.pure h (by rw [if_neg (fun q => hg q.1)]))
  · refine vm_r_iload_n rfl rfl rfl ?_
    refine vm_r_iconst (kI := nI 0) rfl ?_
    refine vm_r_bipush (kI := nI 6) rfl ?_
    refine vm_r_cs3I rfl (by decide) (Nat.le_of_ble_eq_true rfl) (vm_Ex_le (by first | exact Nat.le_of_ble_eq_true rfl | omega) (c_G_within _ _ _)) ?_
    first | refine vm_r_if_neB rfl (fun hw => ?_) (fun hw => ?_) | refine vm_r_if_neN rfl (by omega) (fun hw => ?_) (fun hw => ?_) | refine vm_r_if_ne rfl (fun hw => ?_) (fun hw => ?_)
    · obtain ⟨i, hi, rfl⟩ := vix_n (by omega) hg
      obtain ⟨j, hj, rfl⟩ := vrg_n (by decide) hw
      have hv : vix (nI i) (tG (zT z)) ∧ vrg (nI j) 6 := ⟨hg, hw⟩
      have hA := (h.t.ok.A hi).1
      refine vm_r_iload_n rfl rfl rfl ?_
      refine vm_r_iconst (kI := nI 5) rfl ?_
      first | refine vm_r_icmp_neN rfl (by omega) (by omega) (fun e => ?_) (fun e => ?_) | refine vm_r_icmp_ne rfl (fun e => ?_) (fun e => ?_)
      · refine vm_r_iload_n rfl rfl rfl ?_
        refine vm_r_bipush (kI := nI 6) rfl ?_
        first | refine vm_r_icmp_neN rfl (by omega) (by omega) (fun f => ?_) (fun f => ?_) | refine vm_r_icmp_ne rfl (fun f => ?_) (fun f => ?_)
        · refine vm_r_aload_n rfl rfl rfl ?_
          refine vm_r_getR rfl (h.r1) ?_
          refine vm_r_getR rfl (h.t.s.rA) ?_
          refine vm_r_iload_n rfl rfl rfl ?_
          refine vm_r_iaload rfl (h.t.s.sA) (by omega) (by omega) (h.t.vA hi) ?_
          refine vm_r_iload_n rfl rfl rfl ?_
          refine vm_r_cs2I rfl (by decide) (Nat.le_of_ble_eq_true rfl) (vm_Ex_le (by first | exact Nat.le_of_ble_eq_true rfl | omega) (c_SY_soundAt (by omega) (by omega))) ?_
          refine vm_r_ret rfl (fun h => by cases h) (vPG.pure h (by rw [if_pos hv, nn_nI (by omega), nn_nI (by omega), if_neg (by omega), if_neg (by omega)]))
        · refine vm_r_aload_n rfl rfl rfl ?_
          refine vm_r_getR rfl (h.r1) ?_
          refine vm_r_getR rfl (h.t.s.rE) ?_
          refine vm_r_iload_n rfl rfl rfl ?_
          refine vm_r_iaload rfl (h.t.s.sE) (by omega) (by omega) (h.t.vE hi) ?_
          refine vm_r_ret rfl (fun h => by cases h) (vPG.pure h (by rw [if_pos hv, nn_nI (by omega), nn_nI (by omega), if_neg (by omega), if_pos (by omega)]))
      · refine vm_r_aload_n rfl rfl rfl ?_
        refine vm_r_getR rfl (h.r1) ?_
        refine vm_r_getR rfl (h.t.s.rK) ?_
        refine vm_r_iload_n rfl rfl rfl ?_
        refine vm_r_iaload rfl (h.t.s.sK) (by omega) (by omega) (h.t.vK hi) ?_
        refine vm_r_ret rfl (fun h => by cases h) (vPG.pure h (by rw [if_pos hv, nn_nI (by omega), nn_nI (by omega), if_pos (by omega)]))
    · refine vm_r_iconst rfl ?_
      refine vm_r_ret rfl (fun h => by cases h) (vPG.pure h (by rw [if_neg (fun q => hw q.2)]))
theorem c_G_person (h : vXS μ x z) (p w : Int32) : vm_Ex E 2 n_G_person [.ref x, .int p, .int w] 0 0 μ (vPG μ x (o_person z p w)) := by
  have hP := h.t.ok.P6
  refine vm_start (D := 1) (by decide) rfl (Nat.le_of_ble_eq_true rfl) (k := k_G_person) rfl (L := [.ref x, .int p, .int w]) rfl ?_
  refine vm_r_aload_n rfl rfl rfl ?_
  refine vm_r_getR rfl (h.r1) ?_
  refine vm_r_iload_n rfl rfl rfl ?_
  refine vm_r_cv2I rfl (by decide) (h.t.s.ob) (Nat.le_of_ble_eq_true rfl) (vm_Ex_le (by first | exact Nat.le_of_ble_eq_true rfl | omega) (c_TN_isPerson h.t p)) ?_
  first | refine vm_r_if_eqB rfl (fun hp => ?_) (fun hp => ?_) | refine vm_r_if_eqN rfl (by omega) (fun hp => ?_) (fun hp => ?_) | refine vm_r_if_eq rfl (fun hp => ?_) (fun hp => ?_)
  · refine vm_r_iconst rfl ?_
    refine vm_r_ret rfl (fun h => by cases h) (vPG.pure h (by rw [if_neg (fun q => hp q.1)]))
  · refine vm_r_iload_n rfl rfl rfl ?_
    refine vm_r_iconst (kI := nI 0) rfl ?_
    refine vm_r_iconst (kI := nI 5) rfl ?_
    refine vm_r_cs3I rfl (by decide) (Nat.le_of_ble_eq_true rfl) (vm_Ex_le (by first | exact Nat.le_of_ble_eq_true rfl | omega) (c_G_within _ _ _)) ?_
    first | refine vm_r_if_neB rfl (fun hw => ?_) (fun hw => ?_) | refine vm_r_if_neN rfl (by omega) (fun hw => ?_) (fun hw => ?_) | refine vm_r_if_ne rfl (fun hw => ?_) (fun hw => ?_)
    · obtain ⟨i, hi, rfl⟩ := vix_n (by omega) hp
      obtain ⟨j, hj, rfl⟩ := vrg_n (by decide) hw
      have hv : vix (nI i) (tP (zT z)) ∧ vrg (nI j) 5 := ⟨hp, hw⟩
      have hB := (h.t.ok.B hi).1
      refine vm_r_iload_n rfl rfl rfl ?_
      refine vm_r_iconst (kI := nI 5) rfl ?_
      first | refine vm_r_icmp_neN rfl (by omega) (by omega) (fun e => ?_) (fun e => ?_) | refine vm_r_icmp_ne rfl (fun e => ?_) (fun e => ?_)
      · refine vm_r_aload_n rfl rfl rfl ?_
        refine vm_r_getR rfl (h.r1) ?_
        refine vm_r_getR rfl (h.t.s.rB) ?_
        refine vm_r_iload_n rfl rfl rfl ?_
        refine vm_r_iaload rfl (h.t.s.sB) (by omega) (by omega) (h.t.vB hi) ?_
        refine vm_r_iload_n rfl rfl rfl ?_
        refine vm_r_cs2I rfl (by decide) (Nat.le_of_ble_eq_true rfl) (vm_Ex_le (by first | exact Nat.le_of_ble_eq_true rfl | omega) (c_SY_soundAt (by omega) (by omega))) ?_
        refine vm_r_ret rfl (fun h => by cases h) (vPG.pure h (by rw [if_pos hv, nn_nI (by omega), nn_nI (by omega), if_neg (by omega)]))
      · refine vm_r_aload_n rfl rfl rfl ?_
        refine vm_r_getR rfl (h.r1) ?_
        refine vm_r_getR rfl (h.t.s.rH) ?_
        refine vm_r_iload_n rfl rfl rfl ?_
        refine vm_r_iaload rfl (h.t.s.sH) (by omega) (by omega) (h.t.vH hi) ?_
        refine vm_r_goto rfl ?_
        refine vm_r_ret rfl (fun h => by cases h) (vPG.pure h (by rw [if_pos hv, nn_nI (by omega), nn_nI (by omega), if_pos (by omega)]))
    · refine vm_r_iconst rfl ?_
      refine vm_r_ret rfl (fun h => by cases h) (vPG.pure h (by rw [if_neg (fun q => hw q.2)]))
theorem c_G_far (h : vXS μ x z) (p g : Int32) : vm_Ex E 4 n_G_far [.ref x, .int p, .int g] 0 0 μ (vPG μ x (o_far z p g)) := by
  have hG := h.t.ok.G5
  have hP := h.t.ok.P6
  refine vm_start (D := 3) (by decide) rfl (Nat.le_of_ble_eq_true rfl) (k := k_G_far) rfl (L := [.ref x, .int p, .int g]) rfl ?_
  refine vm_r_aload_n rfl rfl rfl ?_
  refine vm_r_getR rfl (h.r1) ?_
  refine vm_r_iload_n rfl rfl rfl ?_
  refine vm_r_cv2I rfl (by decide) (h.t.s.ob) (Nat.le_of_ble_eq_true rfl) (vm_Ex_le (by first | exact Nat.le_of_ble_eq_true rfl | omega) (c_TN_isPerson h.t p)) ?_
  first | refine vm_r_if_eqB rfl (fun hp => ?_) (fun hp => ?_) | refine vm_r_if_eqN rfl (by omega) (fun hp => ?_) (fun hp => ?_) | refine vm_r_if_eq rfl (fun hp => ?_) (fun hp => ?_)
  · refine vm_r_iconst rfl ?_
    refine vm_r_ret rfl (fun h => by cases h) (vPG.pure h (by rw [if_neg (fun q => hp q.1)]))
  · refine vm_r_aload_n rfl rfl rfl ?_
    refine vm_r_getR rfl (h.r1) ?_
    refine vm_r_iload_n rfl rfl rfl ?_
    refine vm_r_cv2I rfl (by decide) (h.t.s.ob) (Nat.le_of_ble_eq_true rfl) (vm_Ex_le (by first | exact Nat.le_of_ble_eq_true rfl | omega) (c_TN_isGate h.t g)) ?_
    first | refine vm_r_if_neB rfl (fun hg => ?_) (fun hg => ?_) | refine vm_r_if_neN rfl (by omega) (fun hg => ?_) (fun hg => ?_) | refine vm_r_if_ne rfl (fun hg => ?_) (fun hg => ?_)
    · obtain ⟨i, hi, rfl⟩ := vix_n (by omega) hp
      obtain ⟨j, hj, rfl⟩ := vix_n (by omega) hg
      have hv : vix (nI i) (tP (zT z)) ∧ vix (nI j) (tG (zT z)) := ⟨hp, hg⟩
      refine vm_r_aload_n rfl rfl rfl ?_
      refine vm_r_getR rfl (h.r1) ?_
      refine vm_r_aload_n rfl rfl rfl ?_
      refine vm_r_getR rfl (h.r1) ?_
      refine vm_r_getR rfl (h.t.s.rB) ?_
      refine vm_r_iload_n rfl rfl rfl ?_
      refine vm_r_iaload rfl (h.t.s.sB) (by omega) (by omega) (h.t.vB hi) ?_
      refine vm_r_iload_n rfl rfl rfl ?_
      refine vm_r_aload_n rfl rfl rfl ?_
      refine vm_r_getR rfl (h.r1) ?_
      refine vm_r_getR rfl (h.t.s.rK) ?_
      refine vm_r_iload_n rfl rfl rfl ?_
      refine vm_r_iaload rfl (h.t.s.sK) (by omega) (by omega) (h.t.vK hj) ?_
      refine vm_r_cv4I rfl (by decide) (h.t.s.ob) (Nat.le_of_ble_eq_true rfl) (vm_Ex_le (by first | exact Nat.le_of_ble_eq_true rfl | omega) (c_TN_distance h.t (h.t.ok.B hi) hj (h.t.ok.K4 hj))) ?_
      refine vm_r_ret rfl (fun h => by cases h) (vPG.pure h (by rw [if_pos hv, nn_nI (by omega), nn_nI (by omega)]))
    · refine vm_r_iconst rfl ?_
      refine vm_r_ret rfl (fun h => by cases h) (vPG.pure h (by rw [if_neg (fun q => hg q.2)]))
end API
