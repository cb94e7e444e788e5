/-! The model's reader. -/
/-- the reader's frame: scratch; the rows read stay -/
def vgr (μ μ' : vm_M) (m : Nat) : Prop := vg μ μ' m ∧ μ'.2.1 (m + 3) = μ.2.1 (m + 3) ∧ μ'.2.1 (m + 4) = μ.2.1 (m + 4)
theorem vgr.rf {μ : vm_M} {m : Nat} : vgr μ μ m := ⟨vg.rf, rfl, rfl⟩
theorem vgr.tr {μ μ1 μ2 : vm_M} {m : Nat} (h : vgr μ μ1 m) (h2 : vgr μ1 μ2 m) : vgr μ μ2 m := ⟨h.1.tr h2.1, h2.2.1.trans h.2.1, h2.2.2.trans h.2.2⟩
theorem vgr.m15 {μ : vm_M} {m k : Nat} {v : Int32} (hk : k = 15 ∨ k = 17) : vgr μ (vm_mI μ m k v) m := ⟨⟨rfl, rfl, fun o ho => rI_no2 (by omega), fun j h1 h2 => rI_nk (by omega)⟩, rI_no2 (by omega), rI_no2 (by omega)⟩
theorem vgr.m11 {μ : vm_M} {m k : Nat} {v : Int32} : vgr μ (vm_mI μ (m + 11) k v) m := ⟨(vf.mI (Nat.le_refl _) (Nat.le_refl _)).g (by omega), rI_no2 (by omega), rI_no2 (by omega)⟩
theorem pL_128 {x : Nat → Nat} {n k : Nat} (h : ∀ j, j < n → x j < 128) : pL x n k < 128 := by
  unfold pL
  split
  · rename_i q
    exact h k q
  · decide
theorem nI_rg {p a b : Nat} (hp : p < 2 ^ 31) (ha : a < 2 ^ 31) (hb : b < 2 ^ 31) : (nI a ≤ nI p ∧ nI p ≤ nI b) ↔ (a ≤ p ∧ p ≤ b) := by
  rw [nI_leI ha hp, nI_leI hp hb]
/-- figures read as a number -/
def fgs (f : Nat → Nat) : Nat → Nat
  | 0 => 0
  | n + 1 => 10 * fgs f n + f n
theorem fgs_s (f : Nat → Nat) (n : Nat) : fgs f (n + 1) = 10 * fgs f n + f n := rfl
theorem fgs_lt {f : Nat → Nat} : ∀ n, (∀ k, k < n → f k < 10) → fgs f n < 10 ^ n
  | 0, _ => Nat.one_pos
  | n + 1, h => by
    have h1 := fgs_lt n (fun k hk => h k (by omega))
    have h2 := h n (by omega)
    rw [fgs_s, Nat.pow_succ]
    omega
theorem fgs_d {f : Nat → Nat} (h : ∀ k, k < 5 → f k < 10) : ∀ k, k < 5 → fgs f 5 / 10 ^ (4 - k) % 10 = f k := by
  obtain ⟨h0, h1, h2, h3, h4⟩ := v_all5 h
  have e : fgs f 5 = 10000 * f 0 + 1000 * f 1 + 100 * f 2 + 10 * f 3 + f 4 := by
    simp only [fgs]
    omega
  rw [e]
  refine v_5 ?_ ?_ ?_ ?_ ?_ <;> simp only [Nat.reducePow, Nat.reduceSub] <;> omega
section MREAD
variable {E : vm_V} {μ μ' : vm_M} {m : Nat} {z : vZ} {T : vt_T}
theorem c_M_letterAt {a : Nat} (h : vM μ m z) (k : vOk z) (ha : a < 2 ^ 20) : vm_Ex E 1 n_M_letterAt [.ref m, .int (nI a)] 0 0 μ (vm_PI (nI (pL (zx z) (zn z) a)) μ) := by
  have hn := k.2.2.1.1
  refine vm_start (D := 0) (by decide) rfl (Nat.le_of_ble_eq_true rfl) (k := k_M_letterAt) rfl (L := [.ref m, .int (nI a)]) rfl ?_
  refine vm_r_iload_n rfl rfl rfl ?_
  refine vm_r_aload_n rfl rfl rfl ?_
  refine vm_r_getI rfl (h.1.g0 h.2.1.1) ?_
  first | refine vm_r_icmp_geN rfl (by omega) (by omega) (fun e => ?_) (fun e => ?_) | refine vm_r_icmp_ge rfl (fun e => ?_) (fun e => ?_)
  · refine vm_r_iconst (kI := nI 0) rfl ?_
    refine vm_r_ret rfl (fun h => by cases h) (vm_PI.of (by rw [pL_ge (by omega)]))
  · refine vm_r_aload_n rfl rfl rfl ?_
    refine vm_r_getR rfl (h.1.r1) ?_
    refine vm_r_iload_n rfl rfl rfl ?_
    refine vm_r_iaload rfl (h.1.s1) (by omega) (by omega) (h.2.1.2 a e) ?_
    refine vm_r_goto rfl ?_
    refine vm_r_ret rfl (fun h => by cases h) (vm_PI.of (by rw [pL_lt e]))
/-- one figure more, or none -/
theorem M_num0 {i a c v : Nat} {Q : Option Value → vm_M → Prop} (h : vM μ m z) (k : vOk z) (hs : μ.2.1 m 15 = nI a) (ha : a < 2 ^ 20) (hc : c ≤ 3) (hv : v < 1000000)
    (h1 : pD (zx z) (zn z) a ∧ c < 3 → vm_W E (vm_Ex E 1) k_M_numbers Q (11, [.ref m, .int (nI i), .int (nI (c + 1)), .int (nI (10 * v + pL (zx z) (zn z) a - 48))], [], 0, 0, vm_mI μ m 15 (nI (a + 1))))
    (h2 : ¬ (pD (zx z) (zn z) a ∧ c < 3) → vm_W E (vm_Ex E 1) k_M_numbers Q (70, [.ref m, .int (nI i), .int (nI c), .int (nI v)], [], 0, 0, μ)) : vm_W E (vm_Ex E 1) k_M_numbers Q (11, [.ref m, .int (nI i), .int (nI c), .int (nI v)], [], 0, 0, μ) := by
  have hp := pL_128 (k := a) k.2.2.1.2
  have hrg := nI_rg (p := pL (zx z) (zn z) a) (a := 48) (b := 57) (by omega) (by decide) (by decide)
  refine vm_r_aload_n rfl rfl rfl ?_
  refine vm_r_aload_n rfl rfl rfl ?_
  refine vm_r_getI rfl (h.1.g15 hs) ?_
  refine vm_r_cv2I rfl (by decide) (h.1.ob) (Nat.le_of_ble_eq_true rfl) (vm_Ex_le (by first | exact Nat.le_of_ble_eq_true rfl | omega) (c_M_letterAt h k ha)) ?_
  refine vm_r_i2l rfl ?_
  refine vm_r_ldc2_w (kL := lN 48) rfl ?_
  refine vm_r_ldc2_w (kL := lN 57) rfl ?_
  refine vm_r_cs3I rfl (by decide) (Nat.le_of_ble_eq_true rfl) (vm_Ex_le (by first | exact Nat.le_of_ble_eq_true rfl | omega) (c_M_in (x := nI (pL (zx z) (zn z) a)) (lo := nI 48) (hi := nI 57) rfl (by decide) (by decide))) ?_
  first | refine vm_r_if_eqB rfl (fun e => ?_) (fun e => ?_) | refine vm_r_if_eqN rfl (by omega) (fun e => ?_) (fun e => ?_) | refine vm_r_if_eq rfl (fun e => ?_) (fun e => ?_)
  · exact h2 (fun q => e (hrg.mpr q.1))
  · have hd := hrg.mp e
    refine vm_r_iload_n rfl rfl rfl ?_
    refine vm_r_iconst (kI := nI 3) rfl ?_
    first | refine vm_r_icmp_geN rfl (by omega) (by omega) (fun o => ?_) (fun o => ?_) | refine vm_r_icmp_ge rfl (fun o => ?_) (fun o => ?_)
    · exact h2 (fun q => by omega)
    · refine vm_r_bipush (kI := nI 10) rfl ?_
      refine vm_r_iload_n rfl rfl rfl ?_
      first | refine vm_r_imulN rfl ?_ | refine vm_r_imul rfl ?_
      refine vm_r_aload_n rfl rfl rfl ?_
      refine vm_r_aload_n rfl rfl rfl ?_
      refine vm_r_getI rfl (h.1.g15 hs) ?_
      refine vm_r_cv2I rfl (by decide) (h.1.ob) (Nat.le_of_ble_eq_true rfl) (vm_Ex_le (by first | exact Nat.le_of_ble_eq_true rfl | omega) (c_M_letterAt h k ha)) ?_
      first | refine vm_r_iaddN rfl ?_ | refine vm_r_iadd rfl ?_
      refine vm_r_bipush (kI := nI 48) rfl ?_
      first | refine vm_r_isubN rfl (by omega) ?_ | refine vm_r_isub rfl ?_
      refine vm_r_istore_n3 rfl rfl rfl ?_
      first | refine vm_r_iinc2N (y := 1) rfl rfl ?_ | refine vm_r_iinc2 rfl rfl ?_
      refine vm_r_aload_n rfl rfl rfl ?_
      refine vm_r_dup rfl rfl ?_
      refine vm_r_getI rfl (h.1.g15 hs) ?_
      refine vm_r_iconst (kI := nI 1) rfl ?_
      first | refine vm_r_iaddN rfl ?_ | refine vm_r_iadd rfl ?_
      refine vm_r_putI rfl (h.1.w15) ?_
      refine vm_r_goto rfl ?_
      exact h1 ⟨hd, o⟩
theorem M_num70 {i c v s : Nat} {Q : Option Value → vm_M → Prop} (h : vM μ m z) (k : vOk z) (hs : μ.2.1 m 15 = nI s) (ha : s < 2 ^ 20) (hc : c ≤ 3) (hv : v < 100000000) (hi : i < 2)
    (h1 : (1 ≤ c ∧ c ≤ 2) ∧ pL (zx z) (zn z) s = 44 → vm_W E (vm_Ex E 1) k_M_numbers Q (2, [.ref m, .int (nI (i + 1)), .int (nI c), .int (nI v)], [], 0, 0, vm_mI (vm_mI μ (m + 11) i (nI v)) m 15 (nI (s + 1))))
    (h2 : ¬ ((1 ≤ c ∧ c ≤ 2) ∧ pL (zx z) (zn z) s = 44) → Q (some (.int (nI 0))) μ) : vm_W E (vm_Ex E 1) k_M_numbers Q (70, [.ref m, .int (nI i), .int (nI c), .int (nI v)], [], 0, 0, μ) := by
  have hp := pL_128 (k := s) k.2.2.1.2
  have hrg := nI_rg (p := c) (a := 1) (b := 2) (by omega) (by decide) (by decide)
  have e1 : (vm_mI μ (m + 11) i (nI v)).2.1 m 15 = nI s := by rw [rI_no (by omega)]; exact hs
  have hh : vMh (vm_mI μ (m + 11) i (nI v)).1 m := h.1
  refine vm_r_iload_n rfl rfl rfl ?_
  refine vm_r_i2l rfl ?_
  refine vm_r_lconst (kL := lN 1) rfl ?_
  refine vm_r_ldc2_w (kL := lN 2) rfl ?_
  refine vm_r_cs3I rfl (by decide) (Nat.le_of_ble_eq_true rfl) (vm_Ex_le (by first | exact Nat.le_of_ble_eq_true rfl | omega) (c_M_in (x := nI c) (lo := nI 1) (hi := nI 2) rfl (by decide) (by decide))) ?_
  first | refine vm_r_if_eqB rfl (fun e => ?_) (fun e => ?_) | refine vm_r_if_eqN rfl (by omega) (fun e => ?_) (fun e => ?_) | refine vm_r_if_eq rfl (fun e => ?_) (fun e => ?_)
  · refine vm_r_iconst (kI := nI 0) rfl ?_
    refine vm_r_ret rfl (fun _ => by first | exact vm_bi_01 _ | decide) (h2 (fun q => e (hrg.mpr q.1)))
  · refine vm_r_aload_n rfl rfl rfl ?_
    refine vm_r_aload_n rfl rfl rfl ?_
    refine vm_r_getI rfl (h.1.g15 hs) ?_
    refine vm_r_cv2I rfl (by decide) (h.1.ob) (Nat.le_of_ble_eq_true rfl) (vm_Ex_le (by first | exact Nat.le_of_ble_eq_true rfl | omega) (c_M_letterAt h k ha)) ?_
    refine vm_r_bipush (kI := nI 44) rfl ?_
    first | refine vm_r_icmp_eqN rfl (by omega) (by omega) (fun o => ?_) (fun o => ?_) | refine vm_r_icmp_eq rfl (fun o => ?_) (fun o => ?_)
    · refine vm_r_aload_n rfl rfl rfl ?_
      refine vm_r_getR rfl (h.1.r11) ?_
      refine vm_r_iload_n rfl rfl rfl ?_
      refine vm_r_iload_n rfl rfl rfl ?_
      refine vm_r_iastore rfl (h.1.s11) (by omega) (by omega) ?_
      refine vm_r_aload_n rfl rfl rfl ?_
      refine vm_r_dup rfl rfl ?_
      refine vm_r_getI rfl (hh.g15 e1) ?_
      refine vm_r_iconst (kI := nI 1) rfl ?_
      first | refine vm_r_iaddN rfl ?_ | refine vm_r_iadd rfl ?_
      refine vm_r_putI rfl (hh.w15) ?_
      first | refine vm_r_iinc1N (y := 1) rfl rfl ?_ | refine vm_r_iinc1 rfl rfl ?_
      refine vm_r_goto rfl ?_
      exact h1 ⟨hrg.mp e, o⟩
    · refine vm_r_iconst (kI := nI 0) rfl ?_
      refine vm_r_ret rfl (fun _ => by first | exact vm_bi_01 _ | decide) (h2 (fun q => o q.2))
theorem M_num1 {i a : Nat} {Q : Option Value → vm_M → Prop} (h : vM μ m z) (k : vOk z) (hs : μ.2.1 m 15 = nI a) (ha : a ≤ 201) (hi : i < 2)
    (h2 : pNC (zx z) (zn z) a = none → ∀ μ', vgr μ μ' m → Q (some (.int (nI 0))) μ')
    (h1 : ∀ v a1 μ', pNC (zx z) (zn z) a = some (v, a1) → v ≤ 99 → a < a1 ∧ a1 ≤ 201 → vgr μ μ' m → μ'.2.1 m 15 = nI a1 → μ'.2.1 (m + 11) i = nI v → (∀ j, j ≠ i → μ'.2.1 (m + 11) j = μ.2.1 (m + 11) j) → ∀ u w, vm_W E (vm_Ex E 1) k_M_numbers Q (2, [.ref m, .int (nI (i + 1)), u, w], [], 0, 0, μ')) (u w : Value) : vm_W E (vm_Ex E 1) k_M_numbers Q (2, [.ref m, .int (nI i), u, w], [], 0, 0, μ) := by
  have hn := k.2.2.1.1
  have q0 := pL_128 (k := a) k.2.2.1.2
  have q1 := pL_128 (k := a + 1) k.2.2.1.2
  have q2 := pL_128 (k := a + 2) k.2.2.1.2
  have e15 : ∀ (μ : vm_M) v, (vm_mI μ m 15 v).2.1 m 15 = v := fun μ v => rI_eq
  have fin : ∀ (v s : Nat) (μ1 : vm_M), vgr μ μ1 m → μ1.2.1 (m + 11) = μ.2.1 (m + 11) → s ≤ 204 → pL (zx z) (zn z) s = 44 → pNC (zx z) (zn z) a = some (v, s + 1) → v ≤ 99 → a < s + 1 → ∀ c, vm_W E (vm_Ex E 1) k_M_numbers Q (2, [.ref m, .int (nI (i + 1)), .int (nI c), .int (nI v)], [], 0, 0, vm_mI (vm_mI μ1 (m + 11) i (nI v)) m 15 (nI (s + 1))) := by
    intro v s μ1 f e11 hs4 h44 hpn hv hlt c
    have hin : s < zn z := pL_in (x := zx z) (by omega)
    refine h1 v (s + 1) _ hpn hv ⟨hlt, by omega⟩ ((f.tr vgr.m11).tr (vgr.m15 (Or.inl rfl))) rI_eq ?_ (fun j hj => ?_) _ _
    · rw [rI_no (by omega), rI_eq]
    · rw [rI_no (by omega), rI_nk hj, e11]
  have f1 : vgr μ (vm_mI μ m 15 (nI (a + 1))) m := vgr.m15 (Or.inl rfl)
  have f2 : vgr μ (vm_mI (vm_mI μ m 15 (nI (a + 1))) m 15 (nI (a + 1 + 1))) m := f1.tr (vgr.m15 (Or.inl rfl))
  have f3 : vgr μ (vm_mI (vm_mI (vm_mI μ m 15 (nI (a + 1))) m 15 (nI (a + 1 + 1))) m 15 (nI (a + 1 + 1 + 1))) m := f2.tr (vgr.m15 (Or.inl rfl))
  refine vm_r_iload_n rfl rfl rfl ?_
  refine vm_r_iconst (kI := nI 2) rfl ?_
  first | refine vm_r_icmp_geN rfl (by omega) (by omega) (fun hn => absurd hn (by omega)) (fun _ => ?_) | refine vm_r_icmp_ge rfl (fun hn => absurd hn (by omega)) (fun _ => ?_)
  refine vm_r_iconst (kI := nI 0) rfl ?_
  refine vm_r_istore_n2 rfl rfl rfl ?_
  refine vm_r_iconst (kI := nI 0) rfl ?_
  refine vm_r_istore_n3 rfl rfl rfl ?_
  refine M_num0 (c := 0) (v := 0) h k hs (by omega) (by omega) (by omega) (fun d0 => ?_) (fun d0 => ?_)
  · refine M_num0 (c := 0 + 1) (h.g f1.1) k (e15 _ _) (by omega) (by omega) (by omega) (fun d1 => ?_) (fun d1 => ?_)
    · refine M_num0 (c := 0 + 1 + 1) (h.g f2.1) k (e15 _ _) (by omega) (by omega) (by omega) (fun d2 => ?_) (fun d2 => ?_)
      · refine M_num0 (c := 0 + 1 + 1 + 1) (h.g f3.1) k (e15 _ _) (by omega) (by omega) (by omega) (fun d3 => absurd d3.2 (by omega)) (fun d3 => ?_)
        refine M_num70 (h.g f3.1) k (e15 _ _) (by omega) (by omega) (by omega) hi (fun y => by omega) (fun y => ?_)
        refine h2 ?_ _ f3
        rw [pNC_2 d0.1 d1.1, if_neg]
        have := d2.1
        show ¬ pL (zx z) (zn z) (a + 1 + 1) = 44
        omega
      · have e := pNC_2 d0.1 d1.1
        refine M_num70 (h.g f2.1) k (e15 _ _) (by omega) (by omega) (by omega) hi (fun y => ?_) (fun y => ?_)
        · have y2 : pL (zx z) (zn z) (a + 2) = 44 := y.2
          rw [if_pos y2] at e
          have g0 := d0.1
          have g1 := d1.1
          have ev : 10 * (pL (zx z) (zn z) a - 48) + (pL (zx z) (zn z) (a + 1) - 48) = 10 * (10 * 0 + pL (zx z) (zn z) a - 48) + pL (zx z) (zn z) (a + 1) - 48 := by omega
          rw [ev] at e
          exact fin _ (a + 2) _ f2 (by rw [rI_no2 (by omega), rI_no2 (by omega)]) (by omega) y2 e (by omega) (by omega) _
        · refine h2 ?_ _ f2
          rw [e, if_neg (fun q => y ⟨by omega, q⟩)]
    · have d1' : ¬ pD (zx z) (zn z) (a + 1) := fun q => d1 ⟨q, by omega⟩
      have e := pNC_1 d0.1 d1'
      refine M_num70 (h.g f1.1) k (e15 _ _) (by omega) (by omega) (by omega) hi (fun y => ?_) (fun y => ?_)
      · rw [if_pos y.2] at e
        have g0 := d0.1
        have ev : pL (zx z) (zn z) a - 48 = 10 * 0 + pL (zx z) (zn z) a - 48 := by omega
        rw [ev] at e
        exact fin _ (a + 1) _ f1 (by rw [rI_no2 (by omega)]) (by omega) y.2 e (by omega) (by omega) _
      · refine h2 ?_ _ f1
        rw [e, if_neg (fun q => y ⟨by omega, q⟩)]
  · have d0' : ¬ pD (zx z) (zn z) a := fun q => d0 ⟨q, by omega⟩
    refine M_num70 h k hs (by omega) (by omega) (by omega) hi (fun y => by omega) (fun y => h2 (pNC_0 d0') _ vgr.rf)
theorem c_M_numbers {a : Nat} (h : vM μ m z) (k : vOk z) (hs : μ.2.1 m 15 = nI a) (ha : a ≤ 201) : vm_Ex E 2 n_M_numbers [.ref m] 0 0 μ (vm_PX (fun v μ' => vgr μ μ' m ∧
    ((v = 0 ∧ (pNC (zx z) (zn z) a = none ∨ ∃ kd a1, pNC (zx z) (zn z) a = some (kd, a1) ∧ pNC (zx z) (zn z) a1 = none)) ∨
      ∃ kd a1 er a2, pNC (zx z) (zn z) a = some (kd, a1) ∧ pNC (zx z) (zn z) a1 = some (er, a2) ∧ v = 1 ∧ kd ≤ 99 ∧ er ≤ 99 ∧ a < a2 ∧ a2 ≤ 201 ∧ μ'.2.1 m 15 = nI a2 ∧ μ'.2.1 (m + 11) 0 = nI kd ∧ μ'.2.1 (m + 11) 1 = nI er))) := by
  refine vm_start (D := 1) (by decide) rfl (Nat.le_of_ble_eq_true rfl) (k := k_M_numbers) rfl (L := [.ref m, .retAddr 0, .retAddr 0, .retAddr 0]) rfl ?_
  refine vm_r_iconst (kI := nI 0) rfl ?_
  refine vm_r_istore_n1 rfl rfl rfl ?_
  refine M_num1 (i := 0) h k hs ha (by omega) (fun e μ' f => ⟨_, rfl, f, Or.inl ⟨rfl, Or.inl e⟩⟩) (fun kd a1 μ1 e hk ⟨l1, l2⟩ f s1 n1 o1 u w => ?_) _ _
  refine M_num1 (i := 1) (h.g f.1) k s1 l2 (by omega) (fun e2 μ' f2 => ⟨_, rfl, f.tr f2, Or.inl ⟨rfl, Or.inr ⟨kd, a1, e, e2⟩⟩⟩) (fun er a2 μ2 e2 hk2 ⟨l3, l4⟩ f2 s2 n2 o2 u w => ?_) _ _
  refine vm_r_iload_n rfl rfl rfl ?_
  refine vm_r_iconst (kI := nI 2) rfl ?_
  first | refine vm_r_icmp_geN rfl (by omega) (by omega) (fun _ => ?_) (fun hn => absurd hn (by omega)) | refine vm_r_icmp_ge rfl (fun _ => ?_) (fun hn => absurd hn (by omega))
  refine vm_r_iconst (kI := nI 1) rfl ?_
  refine vm_r_ret rfl (fun _ => by first | exact vm_bi_01 _ | decide) (⟨_, rfl, f.tr f2, Or.inr ⟨kd, a1, er, a2, e, e2, rfl, hk, hk2, by omega, l4, s2, (o2 0 (by decide)).trans n1, n2⟩⟩)
theorem c_M_saying {a : Nat} (h : vM μ m z) (k : vOk z) (hs : μ.2.1 m 15 = nI a) (ha : a ≤ 201) : vm_Ex E 2 n_M_saying [.ref m] 0 0 μ (vm_PX (fun v μ' => vgr μ μ' m ∧ μ'.2.1 (m + 11) = μ.2.1 (m + 11) ∧
    ((v = 0 ∧ pSY (zx z) (zn z) a = none) ∨ (v = 1 ∧ pSok (zx z) (zn z) a ∧ pL (zx z) (zn z) (a + 5) = 59 ∧ μ'.2.1 m 15 = nI (a + 6) ∧ μ'.2.1 m 17 = nI (fgs (pF (zx z) (zn z) a) 5))))) := by
  have hn := k.2.2.1.1
  refine vm_start (D := 1) (by decide) rfl (Nat.le_of_ble_eq_true rfl) (k := k_M_saying) rfl (L := [.ref m, .retAddr 0]) rfl ?_
  refine vm_r_aload_n rfl rfl rfl ?_
  refine vm_r_iconst (kI := nI 0) rfl ?_
  refine vm_r_putI rfl (h.1.w17) ?_
  refine vm_r_iconst (kI := nI 0) rfl ?_
  refine vm_r_istore_n1 rfl rfl rfl ?_
  refine vm_up (P := fun i => ∀ μ1 : vm_M, vgr μ μ1 m → μ1.2.1 (m + 11) = μ.2.1 (m + 11) → μ1.2.1 m 15 = nI (a + i) → μ1.2.1 m 17 = nI (fgs (pF (zx z) (zn z) a) i) → (∀ k, k < i → 48 ≤ pL (zx z) (zn z) (a + k) ∧ pL (zx z) (zn z) (a + k) ≤ 53) → vm_W E (vm_Ex E 1) k_M_saying _ (7, [.ref m, .int (nI i)], [], 0, 0, μ1)) (N := 5) ?_ ?_ 0 (by omega) _ (vgr.m15 (Or.inr rfl)) (rI_no2 (by omega)) (by rw [rI_nk (by omega)]; exact hs) rI_eq (fun k hk => by omega)
  · intro μ1 f n1 s1 g1 hd
    have h1 := h.g f.1
    have f2 : vgr μ (vm_mI μ1 m 15 (nI (a + 5 + 1))) m := f.tr (vgr.m15 (Or.inl rfl))
    have h2 := h.g f2.1
    have n2 : (vm_mI μ1 m 15 (nI (a + 5 + 1))).2.1 (m + 11) = μ.2.1 (m + 11) := by rw [rI_no2 (by omega)]; exact n1
    have hp := pL_128 (k := a + 5) k.2.2.1.2
    refine vm_r_iload_n rfl rfl rfl ?_
    refine vm_r_iconst (kI := nI 5) rfl ?_
    first | refine vm_r_icmp_geN rfl (by omega) (by omega) (fun _ => ?_) (fun hn => absurd hn (by omega)) | refine vm_r_icmp_ge rfl (fun _ => ?_) (fun hn => absurd hn (by omega))
    refine vm_r_aload_n rfl rfl rfl ?_
    refine vm_r_dup rfl rfl ?_
    refine vm_r_getI rfl (h1.1.g15 s1) ?_
    refine vm_r_iconst (kI := nI 1) rfl ?_
    first | refine vm_r_iaddN rfl ?_ | refine vm_r_iadd rfl ?_
    refine vm_r_putI rfl (h1.1.w15) ?_
    refine vm_r_aload_n rfl rfl rfl ?_
    refine vm_r_aload_n rfl rfl rfl ?_
    refine vm_r_getI rfl (h2.1.g15 rI_eq) ?_
    refine vm_r_iconst (kI := nI 1) rfl ?_
    first | refine vm_r_isubN rfl (by omega) ?_ | refine vm_r_isub rfl ?_
    rw [show a + 5 + 1 - 1 = a + 5 by omega]
    refine vm_r_cv2I rfl (by decide) (h2.1.ob) (Nat.le_of_ble_eq_true rfl) (vm_Ex_le (by first | exact Nat.le_of_ble_eq_true rfl | omega) (c_M_letterAt h2 k (by omega))) ?_
    refine vm_r_bipush (kI := nI 59) rfl ?_
    first | refine vm_r_icmp_neN rfl (by omega) (by omega) (fun e => ?_) (fun e => ?_) | refine vm_r_icmp_ne rfl (fun e => ?_) (fun e => ?_)
    · refine vm_r_iconst (kI := nI 0) rfl ?_
      refine vm_r_ret rfl (fun _ => by first | exact vm_bi_01 _ | decide) (⟨_, rfl, f2, n2, Or.inl ⟨rfl, if_neg (fun q => e q.2)⟩⟩)
    · refine vm_r_iconst (kI := nI 1) rfl ?_
      refine vm_r_goto rfl ?_
      refine vm_r_ret rfl (fun _ => by first | exact vm_bi_01 _ | decide) (⟨_, rfl, f2, n2, Or.inr ⟨rfl, hd, e, rI_eq, by rw [rI_nk (by omega)]; exact g1⟩⟩)
  · intro i hi ih μ1 f n1 s1 g1 hd
    have h1 := h.g f.1
    have hp := pL_128 (k := a + i) k.2.2.1.2
    have hrg := nI_rg (p := pL (zx z) (zn z) (a + i)) (a := 48) (b := 53) (by omega) (by decide) (by decide)
    have hfl : fgs (pF (zx z) (zn z) a) i < 10 ^ i := fgs_lt i (fun k hk => by have := hd k hk; unfold pF; omega)
    have hpw : 10 ^ i ≤ 10 ^ 5 := Nat.pow_le_pow_right (by decide) (by omega)
    refine vm_r_iload_n rfl rfl rfl ?_
    refine vm_r_iconst (kI := nI 5) rfl ?_
    first | refine vm_r_icmp_geN rfl (by omega) (by omega) (fun hn => absurd hn (by omega)) (fun _ => ?_) | refine vm_r_icmp_ge rfl (fun hn => absurd hn (by omega)) (fun _ => ?_)
    refine vm_r_aload_n rfl rfl rfl ?_
    refine vm_r_aload_n rfl rfl rfl ?_
    refine vm_r_getI rfl (h1.1.g15 s1) ?_
    refine vm_r_cv2I rfl (by decide) (h1.1.ob) (Nat.le_of_ble_eq_true rfl) (vm_Ex_le (by first | exact Nat.le_of_ble_eq_true rfl | omega) (c_M_letterAt h1 k (by omega))) ?_
    refine vm_r_i2l rfl ?_
    refine vm_r_ldc2_w (kL := lN 48) rfl ?_
    refine vm_r_ldc2_w (kL := lN 53) rfl ?_
    refine vm_r_cs3I rfl (by decide) (Nat.le_of_ble_eq_true rfl) (vm_Ex_le (by first | exact Nat.le_of_ble_eq_true rfl | omega) (c_M_in (x := nI (pL (zx z) (zn z) (a + i))) (lo := nI 48) (hi := nI 53) rfl (by decide) (by decide))) ?_
    first | refine vm_r_if_neB rfl (fun e => ?_) (fun e => ?_) | refine vm_r_if_neN rfl (by omega) (fun e => ?_) (fun e => ?_) | refine vm_r_if_ne rfl (fun e => ?_) (fun e => ?_)
    · have hr := hrg.mp e
      have ef : 10 * fgs (pF (zx z) (zn z) a) i + pL (zx z) (zn z) (a + i) - 48 = fgs (pF (zx z) (zn z) a) (i + 1) := by rw [fgs_s]; unfold pF; omega
      have f2 : vgr μ (vm_mI μ1 m 17 (nI (10 * fgs (pF (zx z) (zn z) a) i + pL (zx z) (zn z) (a + i) - 48))) m := f.tr (vgr.m15 (Or.inr rfl))
      have h2 := h.g f2.1
      have s2 : (vm_mI μ1 m 17 (nI (10 * fgs (pF (zx z) (zn z) a) i + pL (zx z) (zn z) (a + i) - 48))).2.1 m 15 = nI (a + i) := by rw [rI_nk (by omega)]; exact s1
      refine vm_r_aload_n rfl rfl rfl ?_
      refine vm_r_bipush (kI := nI 10) rfl ?_
      refine vm_r_aload_n rfl rfl rfl ?_
      refine vm_r_getI rfl (h1.1.g17 g1) ?_
      first | refine vm_r_imulN rfl ?_ | refine vm_r_imul rfl ?_
      refine vm_r_aload_n rfl rfl rfl ?_
      refine vm_r_aload_n rfl rfl rfl ?_
      refine vm_r_getI rfl (h1.1.g15 s1) ?_
      refine vm_r_cv2I rfl (by decide) (h1.1.ob) (Nat.le_of_ble_eq_true rfl) (vm_Ex_le (by first | exact Nat.le_of_ble_eq_true rfl | omega) (c_M_letterAt h1 k (by omega))) ?_
      first | refine vm_r_iaddN rfl ?_ | refine vm_r_iadd rfl ?_
      refine vm_r_bipush (kI := nI 48) rfl ?_
      first | refine vm_r_isubN rfl (by omega) ?_ | refine vm_r_isub rfl ?_
      refine vm_r_putI rfl (h1.1.w17) ?_
      refine vm_r_aload_n rfl rfl rfl ?_
      refine vm_r_dup rfl rfl ?_
      refine vm_r_getI rfl (h2.1.g15 s2) ?_
      refine vm_r_iconst (kI := nI 1) rfl ?_
      first | refine vm_r_iaddN rfl ?_ | refine vm_r_iadd rfl ?_
      refine vm_r_putI rfl (h2.1.w15) ?_
      first | refine vm_r_iinc1N (y := 1) rfl rfl ?_ | refine vm_r_iinc1 rfl rfl ?_
      refine vm_r_goto rfl ?_
      refine ih _ (f2.tr (vgr.m15 (Or.inl rfl))) (by rw [rI_no2 (by omega), rI_no2 (by omega)]; exact n1) rI_eq (by rw [rI_nk (by omega), rI_eq, ef]) (fun k hk => ?_)
      rcases Nat.lt_or_ge k i with y | y
      · exact hd k y
      · obtain rfl : k = i := by omega
        exact hr
    · refine vm_r_iconst (kI := nI 0) rfl ?_
      refine vm_r_ret rfl (fun _ => by first | exact vm_bi_01 _ | decide) (⟨_, rfl, f, n1, Or.inl ⟨rfl, if_neg (fun q => e (hrg.mpr (q.1 i hi)))⟩⟩)
end MREAD
