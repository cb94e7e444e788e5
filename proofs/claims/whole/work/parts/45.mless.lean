/-! The model's search for the fewest talks. -/
/-- a town in which one person says otherwise -/
def vTp (T : vt_T) (p c : Nat) : vt_T := (T.1, tK T, tE T, tA T, vu (tB T) p c, tH T, tI T, tO T)
theorem vTp_ok {T : vt_T} {p c : Nat} (h : vt_ok T) (hc : vok c) : vt_ok (vTp T p c) := ⟨h.1, h.2.1, h.2.2.1, vu_all (P := vok) (fun j hj => h.B hj) hc⟩
theorem vTp_self (T : vt_T) (p : Nat) : vTp T p (tB T p) = T := by
  have e : vu (tB T) p (tB T p) = tB T := by
    funext j
    unfold vu
    split
    · rename_i q
      rw [q]
    · rfl
  unfold vTp
  rw [e]
  rfl
theorem vTp_con {T : vt_T} {p q c : Nat} (hq : q ≠ p) : vcon (vTp T p c) p q = vTp T p (vnx T c q) := by
  have e1 : tB (vTp T p c) p = c := vu_eq
  have e2 : tB (vTp T p c) q = tB T q := vu_ne hq
  have e3 : ∀ x, vu (vu (tB T) p c) p x = vu (tB T) p x := fun x => by
    funext j
    unfold vu
    split <;> rfl
  unfold vcon
  rw [e1, e2]
  show (T.1, tK T, tE T, tA T, vu (vu (tB T) p c) p _, tH T, tI T, tO T) = _
  rw [e3]
  rfl
theorem dg6_ix {c : Nat} (h : vok c) : ∀ k, k < 5 → dg6 5 (ix6 c) k = vd c k := by
  obtain ⟨h0, h1, h2, h3, h4⟩ := v_all5 h.2
  unfold dg6 ix6
  refine v_5 ?_ ?_ ?_ ?_ ?_ <;> simp only [Nat.reduceSub, Nat.reducePow] <;> omega
/-- the queue, the steps and the first partners in the model's cells -/
def vQ (μ : vm_M) (m : Nat) (st : vl_T) : Prop := (∀ i, i < st.1 → μ.2.1 (m + 15) i = nI (ix6 (st.2.1 i)) ∧ μ.2.1 (m + 13) (ix6 (st.2.1 i)) = nI (st.2.2.2 i) ∧ μ.2.1 (m + 14) (ix6 (st.2.1 i)) = if st.2.2.2 i = 0 then -4 else nI (st.2.2.1 i)) ∧ ∀ c, vok c → vin st.2.1 c st.1 = false → μ.2.1 (m + 13) (ix6 c) = -4
theorem vQ.k {μ μ1 : vm_M} {m : Nat} {st : vl_T} (h : vQ μ m st) (e1 : μ1.2.1 (m + 13) = μ.2.1 (m + 13)) (e2 : μ1.2.1 (m + 14) = μ.2.1 (m + 14)) (e3 : μ1.2.1 (m + 15) = μ.2.1 (m + 15)) : vQ μ1 m st := by
  unfold vQ
  rw [e1, e2, e3]
  exact h
theorem vQ.add {μ : vm_M} {m c pr sp : Nat} {st : vl_T} (h : vQ μ m st) (hs : vl_ok st) (hc : vok c) (hn : vin st.2.1 c st.1 = false) (hsp : sp ≠ 0) : vQ (vm_mI (vm_mI (vm_mI μ (m + 13) (ix6 c) (nI sp)) (m + 14) (ix6 c) (nI pr)) (m + 15) st.1 (nI (ix6 c))) m (rch st c pr sp) := by
  have hne : ∀ d, vok d → d ≠ c → ix6 d ≠ ix6 c := fun d hd hdc e => hdc (ix6_inj hd hc e)
  have hnot : ∀ i, i < st.1 → st.2.1 i ≠ c := fun i hi e => by
    have := vin_iff.mpr ⟨i, hi, e⟩
    rw [hn] at this
    cases this
  unfold rch
  rw [if_neg (by rw [hn]; exact fun q => by cases q)]
  refine ⟨fun i hi => ?_, fun d hd hdn => ?_⟩
  · have hi : i < st.1 + 1 := hi
    show _ = nI (ix6 (vu st.2.1 st.1 c i)) ∧ (vm_mI (vm_mI (vm_mI μ (m + 13) (ix6 c) (nI sp)) (m + 14) (ix6 c) (nI pr)) (m + 15) st.1 (nI (ix6 c))).2.1 (m + 13) (ix6 (vu st.2.1 st.1 c i)) = nI (vu st.2.2.2 st.1 sp i) ∧ (vm_mI (vm_mI (vm_mI μ (m + 13) (ix6 c) (nI sp)) (m + 14) (ix6 c) (nI pr)) (m + 15) st.1 (nI (ix6 c))).2.1 (m + 14) (ix6 (vu st.2.1 st.1 c i)) = if vu st.2.2.2 st.1 sp i = 0 then -4 else nI (vu st.2.2.1 st.1 pr i)
    by_cases y : i = st.1
    · subst y
      rw [vu_eq, vu_eq, vu_eq, if_neg hsp]
      exact ⟨rI_eq, by rw [rI_no (by omega), rI_no (by omega), rI_eq], by rw [rI_no (by omega), rI_eq]⟩
    · rw [vu_ne y, vu_ne y, vu_ne y]
      have hi' : i < st.1 := by omega
      obtain ⟨y1, y2, y3⟩ := h.1 i hi'
      have hd := hne _ (hs.1 i hi').1 (hnot i hi')
      exact ⟨by rw [rI_nk y, rI_no (by omega), rI_no (by omega)]; exact y1, by rw [rI_no (by omega), rI_no (by omega), rI_nk hd]; exact y2, by rw [rI_no (by omega), rI_nk hd, rI_no (by omega)]; exact y3⟩
  · have hdn : vin (vu st.2.1 st.1 c) d (st.1 + 1) = false := hdn
    rw [vin_u, Bool.or_eq_false_iff] at hdn
    have hcd : ¬ c = d := of_decide_eq_false hdn.2
    rw [rI_no (by omega), rI_no (by omega), rI_nk (hne d hd (fun e => hcd e.symm))]
    exact h.2 d hd hdn.1
theorem rch_30 {st : vl_T} {c pr sp : Nat} (h : ∀ i, i < st.1 → st.2.2.2 i ≤ 30) (hs : sp ≤ 30) : ∀ i, i < (rch st c pr sp).1 → (rch st c pr sp).2.2.2 i ≤ 30 := by
  obtain ⟨e1, e2, e3⟩ := rch_ext (st := st) (c := c) (pr := pr) (sp := sp)
  intro i hi
  rcases Nat.lt_or_ge i st.1 with q | q
  · rw [(e2 i q).2.2]
    exact h i q
  · rw [e3 i q hi]
    exact hs
theorem vX_30 (T : vt_T) (p : Nat) : ∀ n i, i < (vX T p n).1 → (vX T p n).2.2.2 i ≤ 30
  | 0, i, _ => Nat.zero_le 30
  | n + 1, i, hi => by
    rw [vX_s] at hi ⊢
    split at hi
    · rename_i q
      rw [if_pos q]
      obtain ⟨e1, e2, e3⟩ := xq_ext (T := T) (p := p) (c := (vX T p n).2.1 n) (sp := (vX T p n).2.2.2 n + 1) (pf := fun q => if (vX T p n).2.2.2 n = 0 then q else (vX T p n).2.2.1 n) (st := vX T p n) (tP T)
      rcases Nat.lt_or_ge i (vX T p n).1 with y | y
      · rw [(e2 i y).2.2]
        exact vX_30 T p n i y
      · rw [e3 i y hi]
        omega
    · rename_i q
      rw [if_neg q]
      exact vX_30 T p n i hi
section MLESS
variable {E : vm_V} {μ μ' : vm_M} {m : Nat} {z : vZ} {T : vt_T}
theorem c_M_codeOf {p c : Nat} (h : vMh μ.1 m) (hp : p < 6) (hc : vok c) (hr : ∀ k, k < 5 → μ.2.1 (m + 6) (25 + 5 * p + k) = nI (vd c k)) : vm_Ex E 1 n_M_codeOf [.ref m, .int (nI p)] 0 0 μ (vm_PI (nI (ix6 c)) μ) := by
  have e0 : ix6 c = ((((6 * 0 + vd c 0) * 6 + vd c 1) * 6 + vd c 2) * 6 + vd c 3) * 6 + vd c 4 := by unfold ix6; omega
  have d0 := hc.2 0 (by decide)
  have d1 := hc.2 1 (by decide)
  have d2 := hc.2 2 (by decide)
  have d3 := hc.2 3 (by decide)
  have d4 := hc.2 4 (by decide)
  have r0 := hr 0 (by decide)
  have r1 := hr 1 (by decide)
  have r2 := hr 2 (by decide)
  have r3 := hr 3 (by decide)
  have r4 := hr 4 (by decide)
  refine vm_start (D := 0) (by decide) rfl (Nat.le_of_ble_eq_true rfl) (k := k_M_codeOf) rfl (L := [.ref m, .int (nI p), .retAddr 0, .retAddr 0]) rfl ?_
  refine vm_r_iconst (kI := nI 0) rfl ?_
  refine vm_r_istore_n2 rfl rfl rfl ?_
  refine vm_r_iconst (kI := nI 0) rfl ?_
  refine vm_r_istore_n3 rfl rfl rfl ?_
  refine vm_r_iload_n rfl rfl rfl ?_
  refine vm_r_iconst (kI := nI 5) rfl ?_
  first | refine vm_r_icmp_geN rfl (by omega) (by omega) (fun hn => absurd hn (by omega)) (fun _ => ?_) | refine vm_r_icmp_ge rfl (fun hn => absurd hn (by omega)) (fun _ => ?_)
  refine vm_r_bipush (kI := nI 6) rfl ?_
  refine vm_r_iload_n rfl rfl rfl ?_
  first | refine vm_r_imulN rfl ?_ | refine vm_r_imul rfl ?_
  refine vm_r_aload_n rfl rfl rfl ?_
  refine vm_r_getR rfl (h.r6) ?_
  refine vm_r_bipush (kI := nI 25) rfl ?_
  refine vm_r_iconst (kI := nI 5) rfl ?_
  refine vm_r_iload_n rfl rfl rfl ?_
  first | refine vm_r_imulN rfl ?_ | refine vm_r_imul rfl ?_
  first | refine vm_r_iaddN rfl ?_ | refine vm_r_iadd rfl ?_
  refine vm_r_iload_n rfl rfl rfl ?_
  first | refine vm_r_iaddN rfl ?_ | refine vm_r_iadd rfl ?_
  refine vm_r_iaload rfl (h.s6) (by omega) (by omega) (r0) ?_
  first | refine vm_r_iaddN rfl ?_ | refine vm_r_iadd rfl ?_
  refine vm_r_istore_n2 rfl rfl rfl ?_
  first | refine vm_r_iinc3N (y := 1) rfl rfl ?_ | refine vm_r_iinc3 rfl rfl ?_
  refine vm_r_goto rfl ?_
  refine vm_r_iload_n rfl rfl rfl ?_
  refine vm_r_iconst (kI := nI 5) rfl ?_
  first | refine vm_r_icmp_geN rfl (by omega) (by omega) (fun hn => absurd hn (by omega)) (fun _ => ?_) | refine vm_r_icmp_ge rfl (fun hn => absurd hn (by omega)) (fun _ => ?_)
  refine vm_r_bipush (kI := nI 6) rfl ?_
  refine vm_r_iload_n rfl rfl rfl ?_
  first | refine vm_r_imulN rfl ?_ | refine vm_r_imul rfl ?_
  refine vm_r_aload_n rfl rfl rfl ?_
  refine vm_r_getR rfl (h.r6) ?_
  refine vm_r_bipush (kI := nI 25) rfl ?_
  refine vm_r_iconst (kI := nI 5) rfl ?_
  refine vm_r_iload_n rfl rfl rfl ?_
  first | refine vm_r_imulN rfl ?_ | refine vm_r_imul rfl ?_
  first | refine vm_r_iaddN rfl ?_ | refine vm_r_iadd rfl ?_
  refine vm_r_iload_n rfl rfl rfl ?_
  first | refine vm_r_iaddN rfl ?_ | refine vm_r_iadd rfl ?_
  refine vm_r_iaload rfl (h.s6) (by omega) (by omega) (r1) ?_
  first | refine vm_r_iaddN rfl ?_ | refine vm_r_iadd rfl ?_
  refine vm_r_istore_n2 rfl rfl rfl ?_
  first | refine vm_r_iinc3N (y := 1) rfl rfl ?_ | refine vm_r_iinc3 rfl rfl ?_
  refine vm_r_goto rfl ?_
  refine vm_r_iload_n rfl rfl rfl ?_
  refine vm_r_iconst (kI := nI 5) rfl ?_
  first | refine vm_r_icmp_geN rfl (by omega) (by omega) (fun hn => absurd hn (by omega)) (fun _ => ?_) | refine vm_r_icmp_ge rfl (fun hn => absurd hn (by omega)) (fun _ => ?_)
  refine vm_r_bipush (kI := nI 6) rfl ?_
  refine vm_r_iload_n rfl rfl rfl ?_
  first | refine vm_r_imulN rfl ?_ | refine vm_r_imul rfl ?_
  refine vm_r_aload_n rfl rfl rfl ?_
  refine vm_r_getR rfl (h.r6) ?_
  refine vm_r_bipush (kI := nI 25) rfl ?_
  refine vm_r_iconst (kI := nI 5) rfl ?_
  refine vm_r_iload_n rfl rfl rfl ?_
  first | refine vm_r_imulN rfl ?_ | refine vm_r_imul rfl ?_
  first | refine vm_r_iaddN rfl ?_ | refine vm_r_iadd rfl ?_
  refine vm_r_iload_n rfl rfl rfl ?_
  first | refine vm_r_iaddN rfl ?_ | refine vm_r_iadd rfl ?_
  refine vm_r_iaload rfl (h.s6) (by omega) (by omega) (r2) ?_
  first | refine vm_r_iaddN rfl ?_ | refine vm_r_iadd rfl ?_
  refine vm_r_istore_n2 rfl rfl rfl ?_
  first | refine vm_r_iinc3N (y := 1) rfl rfl ?_ | refine vm_r_iinc3 rfl rfl ?_
  refine vm_r_goto rfl ?_
  refine vm_r_iload_n rfl rfl rfl ?_
  refine vm_r_iconst (kI := nI 5) rfl ?_
  first | refine vm_r_icmp_geN rfl (by omega) (by omega) (fun hn => absurd hn (by omega)) (fun _ => ?_) | refine vm_r_icmp_ge rfl (fun hn => absurd hn (by omega)) (fun _ => ?_)
  refine vm_r_bipush (kI := nI 6) rfl ?_
  refine vm_r_iload_n rfl rfl rfl ?_
  first | refine vm_r_imulN rfl ?_ | refine vm_r_imul rfl ?_
  refine vm_r_aload_n rfl rfl rfl ?_
  refine vm_r_getR rfl (h.r6) ?_
  refine vm_r_bipush (kI := nI 25) rfl ?_
  refine vm_r_iconst (kI := nI 5) rfl ?_
  refine vm_r_iload_n rfl rfl rfl ?_
  first | refine vm_r_imulN rfl ?_ | refine vm_r_imul rfl ?_
  first | refine vm_r_iaddN rfl ?_ | refine vm_r_iadd rfl ?_
  refine vm_r_iload_n rfl rfl rfl ?_
  first | refine vm_r_iaddN rfl ?_ | refine vm_r_iadd rfl ?_
  refine vm_r_iaload rfl (h.s6) (by omega) (by omega) (r3) ?_
  first | refine vm_r_iaddN rfl ?_ | refine vm_r_iadd rfl ?_
  refine vm_r_istore_n2 rfl rfl rfl ?_
  first | refine vm_r_iinc3N (y := 1) rfl rfl ?_ | refine vm_r_iinc3 rfl rfl ?_
  refine vm_r_goto rfl ?_
  refine vm_r_iload_n rfl rfl rfl ?_
  refine vm_r_iconst (kI := nI 5) rfl ?_
  first | refine vm_r_icmp_geN rfl (by omega) (by omega) (fun hn => absurd hn (by omega)) (fun _ => ?_) | refine vm_r_icmp_ge rfl (fun hn => absurd hn (by omega)) (fun _ => ?_)
  refine vm_r_bipush (kI := nI 6) rfl ?_
  refine vm_r_iload_n rfl rfl rfl ?_
  first | refine vm_r_imulN rfl ?_ | refine vm_r_imul rfl ?_
  refine vm_r_aload_n rfl rfl rfl ?_
  refine vm_r_getR rfl (h.r6) ?_
  refine vm_r_bipush (kI := nI 25) rfl ?_
  refine vm_r_iconst (kI := nI 5) rfl ?_
  refine vm_r_iload_n rfl rfl rfl ?_
  first | refine vm_r_imulN rfl ?_ | refine vm_r_imul rfl ?_
  first | refine vm_r_iaddN rfl ?_ | refine vm_r_iadd rfl ?_
  refine vm_r_iload_n rfl rfl rfl ?_
  first | refine vm_r_iaddN rfl ?_ | refine vm_r_iadd rfl ?_
  refine vm_r_iaload rfl (h.s6) (by omega) (by omega) (r4) ?_
  first | refine vm_r_iaddN rfl ?_ | refine vm_r_iadd rfl ?_
  refine vm_r_istore_n2 rfl rfl rfl ?_
  first | refine vm_r_iinc3N (y := 1) rfl rfl ?_ | refine vm_r_iinc3 rfl rfl ?_
  refine vm_r_goto rfl ?_
  refine vm_r_iload_n rfl rfl rfl ?_
  refine vm_r_iconst (kI := nI 5) rfl ?_
  first | refine vm_r_icmp_geN rfl (by omega) (by omega) (fun _ => ?_) (fun hn => absurd hn (by omega)) | refine vm_r_icmp_ge rfl (fun _ => ?_) (fun hn => absurd hn (by omega))
  refine vm_r_iload_n rfl rfl rfl ?_
  refine vm_r_ret rfl (fun h => by cases h) (vm_PI.of (congrArg nI (by rw [e0]; omega)))
theorem c_M_learns {p c c0 : Nat} (s : vSd μ m (vTp T p c0)) (hT : vt_ok T) (hp : p < tP T) (hc : vok c) : vm_Ex E 2 n_M_learns [.ref m, .int (nI p), .int (nI (ix6 c))] 0 0 μ (vm_PV (fun μ' => vg μ μ' m ∧ (μ'.2.1 (m + 13) = μ.2.1 (m + 13) ∧ μ'.2.1 (m + 14) = μ.2.1 (m + 14) ∧ μ'.2.1 (m + 15) = μ.2.1 (m + 15)) ∧ vSd μ' m (vTp T p c))) := by
  have hP := hT.2.1
  have hG := hT.1
  have hix := ix6_lt hc
  refine vm_start (D := 1) (by decide) rfl (Nat.le_of_ble_eq_true rfl) (k := k_M_learns) rfl (L := [.ref m, .int (nI p), .int (nI (ix6 c)), .retAddr 0]) rfl ?_
  refine vm_r_aload_n rfl rfl rfl ?_
  refine vm_r_iload_n rfl rfl rfl ?_
  refine vm_r_cv2V rfl (by decide) (s.1.ob) (Nat.le_of_ble_eq_true rfl) (vm_Ex_le (by first | exact Nat.le_of_ble_eq_true rfl | omega) (c_M_sayingIs s.1 (by omega))) (fun μ1 q1 => ?_)
  obtain ⟨f1, w1⟩ := q1
  have e1 : ∀ k, k < 5 → μ1.2.1 (m + 12) k = nI (vd c k) := fun k hk => by rw [w1 k hk, (cd6_d (k := 5) (u := ix6 c) (Nat.le_refl 5)).2 k hk, if_pos hk, dg6_ix hc k hk]
  have s1 := s.f f1
  refine vm_r_iconst (kI := nI 0) rfl ?_
  refine vm_r_istore_n3 rfl rfl rfl ?_
  refine vm_up (P := fun i => ∀ μ2 : vm_M, vf μ1 μ2 (m + 6) (m + 6) → (∀ k, μ2.2.1 (m + 6) k = if 25 + 5 * p ≤ k ∧ k < 25 + 5 * p + i then nI (vd c (k - (25 + 5 * p))) else μ1.2.1 (m + 6) k) → vm_W E (vm_Ex E 1) k_M_learns _ (7, [.ref m, .int (nI p), .int (nI (ix6 c)), .int (nI i)], [], 0, 0, μ2)) (N := 5) ?_ ?_ 0 (by omega) μ1 vf.rf (fun k => by rw [if_neg (by omega)])
  · intro μ2 f2 e2
    refine vm_r_iload_n rfl rfl rfl ?_
    refine vm_r_iconst (kI := nI 5) rfl ?_
    first | refine vm_r_icmp_geN rfl (by omega) (by omega) (fun _ => ?_) (fun hn => absurd hn (by omega)) | refine vm_r_icmp_ge rfl (fun _ => ?_) (fun hn => absurd hn (by omega))
    refine vm_r_vret rfl (⟨rfl, (f1.g (by omega)).tr (f2.g (by omega)), ⟨by rw [f2.2.2 _ (by omega), f1.2.2 _ (by omega)], by rw [f2.2.2 _ (by omega), f1.2.2 _ (by omega)], by rw [f2.2.2 _ (by omega), f1.2.2 _ (by omega)]⟩, by rw [f2.1]; exact s1.1, by rw [f2.2.2 _ (by omega)]; exact s1.2.1, ?_, vTp_ok hT hc⟩)
    obtain ⟨r1, r2, r3, r4, r5⟩ := s1.2.2.1
    refine ⟨fun g k hg hk => ?_, fun r k hr hk => ?_, fun r hr => ?_, ?_, ?_⟩
    · have hg : g < tG T := hg
      rw [e2, if_neg (by omega)]
      exact r1 g k hg hk
    · have hr : r < tP T := hr
      show _ = nI (vd (vu (tB T) p c r) k)
      by_cases y : r = p
      · subst y
        rw [vu_eq, e2, if_pos (by omega), show 25 + 5 * r + k - (25 + 5 * r) = k by omega]
      · rw [vu_ne y, e2, if_neg (by omega)]
        have := r2 r k hr hk
        rw [this]
        show nI (vd (vu (tB T) p c0 r) k) = _
        rw [vu_ne y]
    · have hr : r < tP T := hr
      rw [e2, if_neg (by omega)]
      exact r3 r hr
    · rw [e2, if_neg (by omega)]
      exact r4
    · rw [e2, if_neg (by omega)]
      exact r5
  · intro i hi ih μ2 f2 e2
    have h2 : vMh μ2.1 m := by rw [f2.1]; exact s1.1
    have w2 : μ2.2.1 (m + 12) i = nI (vd c i) := by rw [f2.2.2 _ (by omega)]; exact e1 i hi
    refine vm_r_iload_n rfl rfl rfl ?_
    refine vm_r_iconst (kI := nI 5) rfl ?_
    first | refine vm_r_icmp_geN rfl (by omega) (by omega) (fun hn => absurd hn (by omega)) (fun _ => ?_) | refine vm_r_icmp_ge rfl (fun hn => absurd hn (by omega)) (fun _ => ?_)
    refine vm_r_aload_n rfl rfl rfl ?_
    refine vm_r_getR rfl (h2.r6) ?_
    refine vm_r_bipush (kI := nI 25) rfl ?_
    refine vm_r_iconst (kI := nI 5) rfl ?_
    refine vm_r_iload_n rfl rfl rfl ?_
    first | refine vm_r_imulN rfl ?_ | refine vm_r_imul rfl ?_
    first | refine vm_r_iaddN rfl ?_ | refine vm_r_iadd rfl ?_
    refine vm_r_iload_n rfl rfl rfl ?_
    first | refine vm_r_iaddN rfl ?_ | refine vm_r_iadd rfl ?_
    refine vm_r_aload_n rfl rfl rfl ?_
    refine vm_r_getR rfl (h2.r12) ?_
    refine vm_r_iload_n rfl rfl rfl ?_
    refine vm_r_iaload rfl (h2.s12) (by omega) (by omega) (w2) ?_
    refine vm_r_iastore rfl (h2.s6) (by omega) (by omega) ?_
    first | refine vm_r_iinc3N (y := 1) rfl rfl ?_ | refine vm_r_iinc3 rfl rfl ?_
    refine vm_r_goto rfl ?_
    refine ih _ (f2.tr (vf.mI (Nat.le_refl _) (Nat.le_refl _))) (fun k => ?_)
    by_cases y : k = 25 + 5 * p + i
    · subst y
      rw [rI_eq, if_pos (by omega), show 25 + 5 * p + i - (25 + 5 * p) = i by omega]
    · rw [rI_nk y, e2]
      by_cases y2 : 25 + 5 * p ≤ k ∧ k < 25 + 5 * p + i
      · rw [if_pos y2, if_pos (by omega)]
      · rw [if_neg y2, if_neg (by omega)]
end MLESS
