/-! The model's reader: gates and persons told, the whole text, a town begun. -/
/-- the town read so far; the reader stands at a -/
def vRd (μ : vm_M) (m : Nat) (T : vt_T) : Prop := vTold (μ.2.1 (m + 3)) T ∧ vRow (μ.2.1 (m + 4)) T ∧ vt_ok T ∧ ∀ p, tP T ≤ p → p < 6 → μ.2.1 (m + 4) (55 + p) = -4
theorem vRd.gr {μ μ1 : vm_M} {m : Nat} {T : vt_T} (h : vRd μ m T) (f : vgr μ μ1 m) : vRd μ1 m T := by
  unfold vRd
  rw [f.2.1, f.2.2]
  exact h
section MITEM
variable {E : vm_V} {μ μ' : vm_M} {m : Nat} {z : vZ} {T : vt_T}
theorem c_M_say {o F : Nat} (h : vMh μ.1 m) (ho : o + 5 ≤ 63) (hF : F < 1000000) : vm_Ex E 1 n_M_say [.ref m, .int (nI o), .int (nI F)] 0 0 μ (vm_PV (fun μ' => vf μ μ' (m + 4) (m + 4) ∧ (∀ k, k < 5 → μ'.2.1 (m + 4) (o + k) = nI (F / 10 ^ (4 - k) % 10)) ∧ ∀ k, (k < o ∨ o + 5 ≤ k) → μ'.2.1 (m + 4) k = μ.2.1 (m + 4) k)) := by
  refine vm_start (D := 0) (by decide) rfl (Nat.le_of_ble_eq_true rfl) (k := k_M_say) rfl (L := [.ref m, .int (nI o), .int (nI F), .retAddr 0, .retAddr 0]) rfl ?_
  refine vm_r_iload_n rfl rfl rfl ?_
  refine vm_r_istore_n3 rfl rfl rfl ?_
  refine vm_r_iconst (kI := nI 4) rfl ?_
  refine vm_r_istore4 rfl rfl ?_
  refine vm_up (P := fun i => ∀ (μ1 : vm_M) (y : Nat), y = F / 10 ^ i → vf μ μ1 (m + 4) (m + 4) → (∀ k, k < 5 → 5 - i ≤ k → μ1.2.1 (m + 4) (o + k) = nI (F / 10 ^ (4 - k) % 10)) → (∀ k, (k < o ∨ o + 5 ≤ k) → μ1.2.1 (m + 4) k = μ.2.1 (m + 4) k) → vm_W E (vm_Ex E 0) k_M_say _ (5, [.ref m, .int (nI o), .int (nI F), .int (nI y), .int (v_d4 i)], [], 0, 0, μ1)) (N := 5) ?_ ?_ 0 (by omega) μ F (by rw [Nat.pow_zero, Nat.div_one]) vf.rf (fun k h1 h2 => by omega) (fun _ _ => rfl)
  · intro μ1 y hy f e1 e2
    refine vm_r_iload rfl rfl ?_
    refine vm_r_if_lt rfl (fun _ => ?_) (fun hn => absurd hn ((by decide)))
    refine vm_r_vret rfl (⟨rfl, f, fun k hk => e1 k hk (by omega), e2⟩)
  · intro i hi ih μ1 y hy f e1 e2
    subst hy
    have h1 : vMh μ1.1 m := by rw [f.1]; exact h
    have e4 : v_d4 i = nI (4 - i) := if_neg (by omega)
    have hle : F / 10 ^ i ≤ F := Nat.div_le_self _ _
    have hmo := Nat.mod_lt (F / 10 ^ i) (show 0 < 10 by decide)
    rw [← v_d4_s i hi] at ih
    rw [e4]
    refine vm_r_iload rfl rfl ?_
    refine vm_r_if_ltN rfl (by omega) ?_
    refine vm_r_aload_n rfl rfl rfl ?_
    refine vm_r_getR rfl (h1.r4) ?_
    refine vm_r_iload_n rfl rfl rfl ?_
    refine vm_r_iload rfl rfl ?_
    first | refine vm_r_iaddN rfl ?_ | refine vm_r_iadd rfl ?_
    refine vm_r_iload_n rfl rfl rfl ?_
    refine vm_r_bipush (kI := nI 10) rfl ?_
    refine vm_r_iremN rfl (by omega) (by omega) (by omega) ?_
    refine vm_r_iastore rfl (h1.s4) (by omega) (by omega) ?_
    refine vm_r_iload_n rfl rfl rfl ?_
    refine vm_r_bipush (kI := nI 10) rfl ?_
    refine vm_r_idivN rfl (by omega) (by omega) (by omega) ?_
    refine vm_r_istore_n3 rfl rfl rfl ?_
    refine vm_r_iinc4 rfl rfl ?_
    refine vm_r_goto rfl ?_
    refine ih _ _ (by rw [Nat.pow_succ, Nat.div_div_eq_div_mul]) (f.tr (vf.mI (Nat.le_refl _) (Nat.le_refl _))) (fun k hk h5 => ?_) (fun k hk => ?_)
    · by_cases y : k = 4 - i
      · subst y
        rw [rI_eq, show 4 - (4 - i) = i by omega]
      · rw [rI_nk (by omega)]
        exact e1 k hk (by omega)
    · rw [rI_nk (by omega)]
      exact e2 k hk
theorem c_M_gateIs {kd er F c : Nat} (h : vMh μ.1 m) (r : vRd μ m T) (hG : tG T < 5) (hd : kd < 4) (he : er ≤ 40) (hF : F < 1000000) (hc : vok c) (hFc : ∀ k, k < 5 → F / 10 ^ (4 - k) % 10 = vd c k) :
    vm_Ex E 2 n_M_gateIs [.ref m, .int (nI kd), .int (nI er), .int (nI F)] 0 0 μ (vm_PV (fun μ' => vf μ μ' (m + 3) (m + 4) ∧ vRd μ' m (vaG T kd er c))) := by
  obtain ⟨r1, r2, r3, r4⟩ := r
  have hP := r3.2.1
  have g2 : (vm_mI μ (m + 3) (2 + tG T) (nI kd)).2.1 (m + 3) 0 = nI (tG T) := by rw [rI_nk (by omega)]; exact r1.1
  have g3 : (vm_mI (vm_mI μ (m + 3) (2 + tG T) (nI kd)) (m + 3) (7 + tG T) (nI er)).2.1 (m + 3) 0 = nI (tG T) := by rw [rI_nk (by omega)]; exact g2
  have h2 : vMh (vm_mI μ (m + 3) (2 + tG T) (nI kd)).1 m := h
  have h3 : vMh (vm_mI (vm_mI μ (m + 3) (2 + tG T) (nI kd)) (m + 3) (7 + tG T) (nI er)).1 m := h
  refine vm_start (D := 1) (by decide) rfl (Nat.le_of_ble_eq_true rfl) (k := k_M_gateIs) rfl (L := [.ref m, .int (nI kd), .int (nI er), .int (nI F)]) rfl ?_
  refine vm_r_aload_n rfl rfl rfl ?_
  refine vm_r_getR rfl (h.r3) ?_
  refine vm_r_iconst (kI := nI 2) rfl ?_
  refine vm_r_aload_n rfl rfl rfl ?_
  refine vm_r_getR rfl (h.r3) ?_
  refine vm_r_iconst (kI := nI 0) rfl ?_
  refine vm_r_iaload rfl (h.s3) (by omega) (by omega) (r1.1) ?_
  first | refine vm_r_iaddN rfl ?_ | refine vm_r_iadd rfl ?_
  refine vm_r_iload_n rfl rfl rfl ?_
  refine vm_r_iastore rfl (h.s3) (by omega) (by omega) ?_
  refine vm_r_aload_n rfl rfl rfl ?_
  refine vm_r_getR rfl (h2.r3) ?_
  refine vm_r_bipush (kI := nI 7) rfl ?_
  refine vm_r_aload_n rfl rfl rfl ?_
  refine vm_r_getR rfl (h2.r3) ?_
  refine vm_r_iconst (kI := nI 0) rfl ?_
  refine vm_r_iaload rfl (h2.s3) (by omega) (by omega) (g2) ?_
  first | refine vm_r_iaddN rfl ?_ | refine vm_r_iadd rfl ?_
  refine vm_r_iload_n rfl rfl rfl ?_
  refine vm_r_iastore rfl (h2.s3) (by omega) (by omega) ?_
  refine vm_r_aload_n rfl rfl rfl ?_
  refine vm_r_iconst (kI := nI 5) rfl ?_
  refine vm_r_aload_n rfl rfl rfl ?_
  refine vm_r_getR rfl (h3.r3) ?_
  refine vm_r_iconst (kI := nI 0) rfl ?_
  refine vm_r_iaload rfl (h3.s3) (by omega) (by omega) (g3) ?_
  first | refine vm_r_imulN rfl ?_ | refine vm_r_imul rfl ?_
  refine vm_r_iload_n rfl rfl rfl ?_
  refine vm_r_cv3V rfl (by decide) (h3.ob) (Nat.le_of_ble_eq_true rfl) (vm_Ex_le (by first | exact Nat.le_of_ble_eq_true rfl | omega) (c_M_say (o := 5 * tG T) h3 (by omega) hF)) (fun μ4 q4 => ?_)
  obtain ⟨f4, d4, o4⟩ := q4
  have h4 : vMh μ4.1 m := by rw [f4.1]; exact h3
  have g4 : μ4.2.1 (m + 3) 0 = nI (tG T) := by rw [f4.2.2 _ (by omega)]; exact g3
  have k3 : ∀ k, μ4.2.1 (m + 3) k = (vm_mI (vm_mI μ (m + 3) (2 + tG T) (nI kd)) (m + 3) (7 + tG T) (nI er)).2.1 (m + 3) k := fun k => by rw [f4.2.2 _ (by omega)]
  have k4 : ∀ k, (k < 5 * tG T ∨ 5 * tG T + 5 ≤ k) → (vm_mI μ4 (m + 3) 0 (nI (tG T + 1))).2.1 (m + 4) k = μ.2.1 (m + 4) k := fun k hk => by rw [rI_no (by omega), o4 k hk, rI_no (by omega), rI_no (by omega)]
  refine vm_r_aload_n rfl rfl rfl ?_
  refine vm_r_getR rfl (h4.r3) ?_
  refine vm_r_iconst (kI := nI 0) rfl ?_
  refine vm_r_dup2 rfl rfl rfl ?_
  refine vm_r_iaload rfl (h4.s3) (by omega) (by omega) (g4) ?_
  refine vm_r_iconst (kI := nI 1) rfl ?_
  first | refine vm_r_iaddN rfl ?_ | refine vm_r_iadd rfl ?_
  refine vm_r_iastore rfl (h4.s3) (by omega) (by omega) ?_
  refine vm_r_vret rfl (⟨rfl, ?_, ⟨rI_eq, ?_, ?_⟩, ⟨?_, ?_, ?_, ?_, ?_⟩, vaG_ok r3 hG hd he hc, ?_⟩)
  · exact (((vf.mI (Nat.le_refl _) (by omega) : vf _ _ (m + 3) (m + 4)).tr (vf.mI (Nat.le_refl _) (by omega))).tr (f4.wd (by omega) (by omega))).tr (vf.mI (Nat.le_refl _) (by omega))
  · rw [rI_nk (by omega), k3, rI_nk (by omega), rI_nk (by omega)]
    exact r1.2.1
  · intro g hg
    have hg : g < tG T + 1 := hg
    show _ = nI (vu (tK T) (tG T) kd g) ∧ _ = nI (vu (tE T) (tG T) er g)
    by_cases y : g = tG T
    · subst y
      rw [vu_eq, vu_eq, rI_nk (by omega), k3, rI_nk (by omega), rI_eq, rI_nk (by omega), k3, rI_eq]
      exact ⟨rfl, rfl⟩
    · obtain ⟨y1, y2⟩ := r1.2.2 g (by omega)
      rw [vu_ne y, vu_ne y, rI_nk (by omega), k3, rI_nk (by omega), rI_nk (by omega), rI_nk (by omega), k3, rI_nk (by omega), rI_nk (by omega)]
      exact ⟨y1, y2⟩
  · intro g k hg hk
    have hg : g < tG T + 1 := hg
    show _ = nI (vd (vu (tA T) (tG T) c g) k)
    by_cases y : g = tG T
    · subst y
      rw [vu_eq, rI_no (by omega), d4 k hk, hFc k hk]
    · rw [vu_ne y, k4 _ (by omega)]
      exact r2.1 g k (by omega) hk
  · intro p k hp hk
    have hp : p < tP T := hp
    rw [k4 _ (by omega)]
    exact r2.2.1 p k hp hk
  · intro p hp
    have hp : p < tP T := hp
    rw [k4 _ (by omega)]
    exact r2.2.2.1 p hp
  · rw [k4 _ (by omega)]
    exact r2.2.2.2.1
  · rw [k4 _ (by omega)]
    exact r2.2.2.2.2
  · intro p h5 h6
    rw [k4 _ (by omega)]
    exact r4 p h5 h6
theorem c_M_personIs {F c : Nat} (h : vMh μ.1 m) (r : vRd μ m T) (hP : tP T < 6) (hF : F < 1000000) (hc : vok c) (hFc : ∀ k, k < 5 → F / 10 ^ (4 - k) % 10 = vd c k) :
    vm_Ex E 2 n_M_personIs [.ref m, .int (nI F)] 0 0 μ (vm_PV (fun μ' => vf μ μ' (m + 3) (m + 4) ∧ vRd μ' m (vaP T c))) := by
  obtain ⟨r1, r2, r3, r4⟩ := r
  have hG := r3.1
  refine vm_start (D := 1) (by decide) rfl (Nat.le_of_ble_eq_true rfl) (k := k_M_personIs) rfl (L := [.ref m, .int (nI F)]) rfl ?_
  refine vm_r_aload_n rfl rfl rfl ?_
  refine vm_r_bipush (kI := nI 25) rfl ?_
  refine vm_r_iconst (kI := nI 5) rfl ?_
  refine vm_r_aload_n rfl rfl rfl ?_
  refine vm_r_getR rfl (h.r3) ?_
  refine vm_r_iconst (kI := nI 1) rfl ?_
  refine vm_r_iaload rfl (h.s3) (by omega) (by omega) (r1.2.1) ?_
  first | refine vm_r_imulN rfl ?_ | refine vm_r_imul rfl ?_
  first | refine vm_r_iaddN rfl ?_ | refine vm_r_iadd rfl ?_
  refine vm_r_iload_n rfl rfl rfl ?_
  refine vm_r_cv3V rfl (by decide) (h.ob) (Nat.le_of_ble_eq_true rfl) (vm_Ex_le (by first | exact Nat.le_of_ble_eq_true rfl | omega) (c_M_say (o := 25 + 5 * tP T) h (by omega) hF)) (fun μ4 q4 => ?_)
  obtain ⟨f4, d4, o4⟩ := q4
  have h4 : vMh μ4.1 m := by rw [f4.1]; exact h
  have g4 : μ4.2.1 (m + 3) 1 = nI (tP T) := by rw [f4.2.2 _ (by omega)]; exact r1.2.1
  have k3 : ∀ k, k ≠ 1 → (vm_mI μ4 (m + 3) 1 (nI (tP T + 1))).2.1 (m + 3) k = μ.2.1 (m + 3) k := fun k hk => by rw [rI_nk hk, f4.2.2 _ (by omega)]
  have k4 : ∀ k, (k < 25 + 5 * tP T ∨ 25 + 5 * tP T + 5 ≤ k) → (vm_mI μ4 (m + 3) 1 (nI (tP T + 1))).2.1 (m + 4) k = μ.2.1 (m + 4) k := fun k hk => by rw [rI_no (by omega), o4 k hk]
  refine vm_r_aload_n rfl rfl rfl ?_
  refine vm_r_getR rfl (h4.r3) ?_
  refine vm_r_iconst (kI := nI 1) rfl ?_
  refine vm_r_dup2 rfl rfl rfl ?_
  refine vm_r_iaload rfl (h4.s3) (by omega) (by omega) (g4) ?_
  refine vm_r_iconst (kI := nI 1) rfl ?_
  first | refine vm_r_iaddN rfl ?_ | refine vm_r_iadd rfl ?_
  refine vm_r_iastore rfl (h4.s3) (by omega) (by omega) ?_
  refine vm_r_vret rfl (⟨rfl, ?_, ⟨?_, rI_eq, ?_⟩, ⟨?_, ?_, ?_, ?_, ?_⟩, vaP_ok r3 hP hc, ?_⟩)
  · exact (f4.wd (by omega) (by omega)).tr (vf.mI (Nat.le_refl _) (by omega) : vf _ _ (m + 3) (m + 4))
  · rw [k3 _ (by omega)]
    exact r1.1
  · intro g hg
    have hg : g < tG T := hg
    rw [k3 _ (by omega), k3 _ (by omega)]
    exact r1.2.2 g hg
  · intro g k hg hk
    have hg : g < tG T := hg
    rw [k4 _ (by omega)]
    exact r2.1 g k hg hk
  · intro p k hp hk
    have hp : p < tP T + 1 := hp
    show _ = nI (vd (vu (tB T) (tP T) c p) k)
    by_cases y : p = tP T
    · subst y
      rw [vu_eq, rI_no (by omega), d4 k hk, hFc k hk]
    · rw [vu_ne y, k4 _ (by omega)]
      exact r2.2.1 p k (by omega) hk
  · intro p hp
    have hp : p < tP T + 1 := hp
    show _ = vu (tH T) (tP T) (-4) p
    rw [k4 _ (by omega)]
    by_cases y : p = tP T
    · subst y
      rw [vu_eq]
      exact r4 _ (Nat.le_refl _) hP
    · rw [vu_ne y]
      exact r2.2.2.1 p (by omega)
  · rw [k4 _ (by omega)]
    exact r2.2.2.2.1
  · rw [k4 _ (by omega)]
    exact r2.2.2.2.2
  · intro p h5 h6
    have h5 : tP T + 1 ≤ p := h5
    rw [k4 _ (by omega)]
    exact r4 p (by omega) h6
theorem c_M_empty (h : vMh μ.1 m) : vm_Ex E 1 n_M_empty [.ref m] 0 0 μ (vm_PV (fun μ' => vf μ μ' (m + 3) (m + 4) ∧ vRd μ' m vt0)) := by
  refine vm_start (D := 0) (by decide) rfl (Nat.le_of_ble_eq_true rfl) (k := k_M_empty) rfl (L := [.ref m, .retAddr 0]) rfl ?_
  refine vm_r_iconst (kI := nI 0) rfl ?_
  refine vm_r_istore_n1 rfl rfl rfl ?_
  refine vm_up (P := fun i => ∀ μ1 : vm_M, vf μ μ1 (m + 3) (m + 4) → (∀ k, k < i → μ1.2.1 (m + 3) k = nI 0) → vm_W E (vm_Ex E 0) k_M_empty _ (2, [.ref m, .int (nI i)], [], 0, 0, μ1)) (N := 12) ?_ ?_ 0 (by omega) μ vf.rf (fun k hk => by omega)
  · intro μ1 f e1
    refine vm_r_iload_n rfl rfl rfl ?_
    refine vm_r_bipush (kI := nI 12) rfl ?_
    first | refine vm_r_icmp_geN rfl (by omega) (by omega) (fun _ => ?_) (fun hn => absurd hn (by omega)) | refine vm_r_icmp_ge rfl (fun _ => ?_) (fun hn => absurd hn (by omega))
    refine vm_r_iconst (kI := nI 0) rfl ?_
    refine vm_r_istore_n1 rfl rfl rfl ?_
    refine vm_up (P := fun i => ∀ μ1 : vm_M, vf μ μ1 (m + 3) (m + 4) → (∀ k, k < 12 → μ1.2.1 (m + 3) k = nI 0) → (∀ k, k < i → μ1.2.1 (m + 4) k = if 55 ≤ k ∧ k < 61 then -4 else nI 0) → vm_W E (vm_Ex E 0) k_M_empty _ (23, [.ref m, .int (nI i)], [], 0, 0, μ1)) (N := 63) ?_ ?_ 0 (by omega) μ1 f e1 (fun k hk => by omega)
    · intro μ2 f2 e1 e2
      have n0 : nI 0 = 0 := by decide
      refine vm_r_iload_n rfl rfl rfl ?_
      refine vm_r_bipush (kI := nI 63) rfl ?_
      first | refine vm_r_icmp_geN rfl (by omega) (by omega) (fun _ => ?_) (fun hn => absurd hn (by omega)) | refine vm_r_icmp_ge rfl (fun _ => ?_) (fun hn => absurd hn (by omega))
      refine vm_r_vret rfl (⟨rfl, f2, ⟨e1 0 (by omega), e1 1 (by omega), fun g hg => absurd hg (Nat.not_lt_zero g)⟩, ⟨fun g k hg => absurd hg (Nat.not_lt_zero g), fun g k hg => absurd hg (Nat.not_lt_zero g), fun g hg => absurd hg (Nat.not_lt_zero g), ?_, ?_⟩, vt0_ok, ?_⟩)
      · rw [e2 61 (by omega), if_neg (by omega)]
        rfl
      · rw [e2 62 (by omega), if_neg (by omega)]
        rfl
      · intro p h1 h2
        rw [e2 _ (by omega), if_pos (by omega)]
    · intro i hi ih μ2 f2 e1 e2
      have h1 : vMh μ2.1 m := by rw [f2.1]; exact h
      have fin : ∀ v : Int32, v = (if 55 ≤ i ∧ i < 61 then -4 else nI 0) → vm_W E (vm_Ex E 0) k_M_empty (vm_PV (fun μ' => vf μ μ' (m + 3) (m + 4) ∧ vRd μ' m vt0)) (52, [.ref m, .int (nI i)], [.int v, .int (nI i), .ref (m + 4)], 0, 0, μ2) := by
        intro v hv
        refine vm_r_iastore rfl (h1.s4) (by omega) (by omega) ?_
        first | refine vm_r_iinc1N (y := 1) rfl rfl ?_ | refine vm_r_iinc1 rfl rfl ?_
        refine vm_r_goto rfl ?_
        refine ih _ (f2.tr (vf.mI (by omega) (Nat.le_refl _))) (fun k hk => by rw [rI_no (by omega)]; exact e1 k hk) (fun k hk => ?_)
        by_cases y : k = i
        · subst y
          rw [rI_eq, hv]
        · rw [rI_nk y]
          exact e2 k (by omega)
      refine vm_r_iload_n rfl rfl rfl ?_
      refine vm_r_bipush (kI := nI 63) rfl ?_
      first | refine vm_r_icmp_geN rfl (by omega) (by omega) (fun hn => absurd hn (by omega)) (fun _ => ?_) | refine vm_r_icmp_ge rfl (fun hn => absurd hn (by omega)) (fun _ => ?_)
      refine vm_r_aload_n rfl rfl rfl ?_
      refine vm_r_getR rfl (h1.r4) ?_
      refine vm_r_iload_n rfl rfl rfl ?_
      refine vm_r_iload_n rfl rfl rfl ?_
      refine vm_r_bipush (kI := nI 55) rfl ?_
      first | refine vm_r_icmp_ltN rfl (by omega) (by omega) (fun a => ?_) (fun a => ?_) | refine vm_r_icmp_lt rfl (fun a => ?_) (fun a => ?_)
      · refine vm_r_iconst (kI := nI 0) rfl ?_
        exact fin _ (by rw [if_neg (by omega)])
      · refine vm_r_iload_n rfl rfl rfl ?_
        refine vm_r_bipush (kI := nI 61) rfl ?_
        first | refine vm_r_icmp_geN rfl (by omega) (by omega) (fun b => ?_) (fun b => ?_) | refine vm_r_icmp_ge rfl (fun b => ?_) (fun b => ?_)
        · refine vm_r_iconst (kI := nI 0) rfl ?_
          exact fin _ (by rw [if_neg (by omega)])
        · refine vm_r_bipush rfl ?_
          refine vm_r_goto rfl ?_
          exact fin _ (by rw [if_pos (by omega)])
  · intro i hi ih μ1 f e1
    have h1 : vMh μ1.1 m := by rw [f.1]; exact h
    refine vm_r_iload_n rfl rfl rfl ?_
    refine vm_r_bipush (kI := nI 12) rfl ?_
    first | refine vm_r_icmp_geN rfl (by omega) (by omega) (fun hn => absurd hn (by omega)) (fun _ => ?_) | refine vm_r_icmp_ge rfl (fun hn => absurd hn (by omega)) (fun _ => ?_)
    refine vm_r_aload_n rfl rfl rfl ?_
    refine vm_r_getR rfl (h1.r3) ?_
    refine vm_r_iload_n rfl rfl rfl ?_
    refine vm_r_iconst (kI := nI 0) rfl ?_
    refine vm_r_iastore rfl (h1.s3) (by omega) (by omega) ?_
    first | refine vm_r_iinc1N (y := 1) rfl rfl ?_ | refine vm_r_iinc1 rfl rfl ?_
    refine vm_r_goto rfl ?_
    refine ih _ (f.tr (vf.mI (Nat.le_refl _) (by omega))) (fun k hk => ?_)
    by_cases y : k = i
    · subst y
      rw [rI_eq]
    · rw [rI_nk y]
      exact e1 k (by omega)
end MITEM
