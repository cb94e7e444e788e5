/-! The search for the best saying: codes to the base of six, place 0 first. -/
def dg6 (k u j : Nat) : Nat := u / 6 ^ (k - 1 - j) % 6
/-- the saying of the first k sounds that u tells -/
def cd6 (k u : Nat) : Nat := vcn (dg6 k u) k
theorem vcn_cong {f g : Nat → Nat} {n : Nat} (h : ∀ k, k < n → f k = g k) : vcn f n = vcn g n := fb_sm_cong fun k hk => by rw [h k hk]
theorem vcn_dn {f : Nat → Nat} {n : Nat} (hn : n ≤ 5) (hf : ∀ k, k < n → f k < 8) : vcn f n < 32768 ∧ ∀ j, j < 5 → vd (vcn f n) j = if j < n then f j else 0 := by
  have e : vcn f n = vcn (fun j => if j < n then f j else 0) 5 := by
    rcases (by omega : n = 0 ∨ n = 1 ∨ n = 2 ∨ n = 3 ∨ n = 4 ∨ n = 5) with rfl | rfl | rfl | rfl | rfl | rfl <;> simp [vcn, fb_sm]
  rw [e]
  refine vcn_d fun k hk => ?_
  split
  · exact hf k (by assumption)
  · decide
theorem dg6_lt (k u j : Nat) : dg6 k u j < 6 := Nat.mod_lt _ (by decide)
theorem cd6_d {k u : Nat} (hk : k ≤ 5) : cd6 k u < 32768 ∧ ∀ j, j < 5 → vd (cd6 k u) j = if j < k then dg6 k u j else 0 := vcn_dn hk fun j _ => Nat.lt_trans (dg6_lt k u j) (by decide)
theorem cd6_ok {k u : Nat} (hk : k ≤ 5) : vok (cd6 k u) := by
  obtain ⟨h1, h2⟩ := cd6_d (u := u) hk
  refine ⟨h1, fun j hj => ?_⟩
  rw [h2 j hj]
  split
  · exact dg6_lt _ _ _
  · decide
theorem dg6_up {k u s j : Nat} (hj : j < k) (hs : s < 6) : dg6 (k + 1) (6 * u + s) j = dg6 k u j := by
  unfold dg6
  rw [show k + 1 - 1 - j = (k - 1 - j) + 1 by omega, Nat.pow_succ, Nat.mul_comm (6 ^ (k - 1 - j)) 6, ← Nat.div_div_eq_div_mul]
  rw [show (6 * u + s) / 6 = u by omega]
theorem dg6_last {k u s : Nat} (hs : s < 6) : dg6 (k + 1) (6 * u + s) k = s := by
  unfold dg6
  rw [show k + 1 - 1 - k = 0 by omega, Nat.pow_zero, Nat.div_one]
  omega
theorem cd6_up {k u s : Nat} (hk : k < 5) (hs : s < 6) : vw (cd6 k u) k s = cd6 (k + 1) (6 * u + s) := by
  have h : vcn (dg6 (k + 1) (6 * u + s)) k = cd6 k u := vcn_cong fun j hj => dg6_up hj hs
  have h2 := vcn_w (f := dg6 (k + 1) (6 * u + s)) hk (fun j _ => Nat.lt_trans (dg6_lt _ _ _) (by decide))
  rw [h, dg6_last hs] at h2
  exact h2
theorem dg6_pre {k e j : Nat} (hk : k ≤ 5) (hj : j < k) : dg6 5 e j = dg6 k (e / 6 ^ (5 - k)) j := by
  unfold dg6
  rw [Nat.div_div_eq_div_mul, ← Nat.pow_add, show 5 - k + (k - 1 - j) = 5 - 1 - j by omega]
theorem vdn_cong {kd s s' a n : Nat} (h : ∀ j, j < n → vd s j = vd s' j) : vdn kd s a n = vdn kd s' a n := fb_sm_cong fun j hj => by unfold vda; rw [h j hj]
theorem vdn_mono (kd s a n m : Nat) : vdn kd s a n ≤ vdn kd s a (n + m) := fb_sm_mono _ n m
/-- how far the first k sounds of u are from a gate -/
def vsp (T : vt_T) (k u g : Nat) : Nat := vdn (tK T g) (cd6 k u) (tA T g) k
theorem vsp_up {T : vt_T} {k u s g : Nat} (hk : k < 5) (hs : s < 6) : vsp T (k + 1) (6 * u + s) g = vsp T k u g + vwt (tK T g) k * vab s (vd (tA T g) k) := by
  obtain ⟨-, h1⟩ := cd6_d (k := k + 1) (u := 6 * u + s) (by omega)
  obtain ⟨-, h2⟩ := cd6_d (k := k) (u := u) (by omega)
  have e : vdn (tK T g) (cd6 (k + 1) (6 * u + s)) (tA T g) k = vsp T k u g := vdn_cong fun j hj => by
    rw [h1 j (by omega), h2 j (by omega), if_pos (by omega), if_pos hj, dg6_up hj hs]
  show vdn (tK T g) (cd6 (k + 1) (6 * u + s)) (tA T g) k + vda _ _ _ k = _
  rw [e]
  unfold vda
  rw [h1 k hk, if_pos (by omega), dg6_last hs]
/-- gates in reach of the first k sounds; open to a saying -/
def vir (T : vt_T) (k u : Nat) : Nat := fb_ct (fun g => decide (vsp T k u g ≤ tE T g)) (tG T)
def vop (T : vt_T) (s n : Nat) : Nat := fb_ct (fun g => decide (vadm T s g)) n
theorem vir_op (T : vt_T) (e : Nat) : vir T 5 e = vop T (cd6 5 e) (tG T) := rfl
theorem vop_le {T : vt_T} {k u e : Nat} (hk : k ≤ 5) (h : e / 6 ^ (5 - k) = u) : vop T (cd6 5 e) (tG T) ≤ vir T k u := by
  subst h
  refine fb_ct_sub fun g hg hd => ?_
  have hd : vdn (tK T g) (cd6 5 e) (tA T g) 5 ≤ tE T g := of_decide_eq_true hd
  obtain ⟨-, h1⟩ := cd6_d (k := 5) (u := e) (by omega)
  obtain ⟨-, h2⟩ := cd6_d (k := k) (u := e / 6 ^ (5 - k)) hk
  have e1 : vsp T k (e / 6 ^ (5 - k)) g = vdn (tK T g) (cd6 5 e) (tA T g) k := vdn_cong fun j hj => by
    rw [h1 j (by omega), h2 j (by omega), if_pos hj, if_pos (by omega), dg6_pre hk hj]
  have e2 := vdn_mono (tK T g) (cd6 5 e) (tA T g) k (5 - k)
  rw [show k + (5 - k) = 5 by omega] at e2
  exact decide_eq_true (by rw [e1]; omega)
/-- most gates, and the first of the first n codes with so many (0 where there is none) -/
def vbf (T : vt_T) : Nat → Nat × Nat
  | 0 => (0, 0)
  | n + 1 => if (vbf T n).1 < vop T (cd6 5 n) (tG T) then (vop T (cd6 5 n) (tG T), n) else vbf T n
theorem vbf_s (T : vt_T) (n : Nat) : vbf T (n + 1) = if (vbf T n).1 < vop T (cd6 5 n) (tG T) then (vop T (cd6 5 n) (tG T), n) else vbf T n := rfl
theorem vbf_le (T : vt_T) : ∀ n, (vbf T n).1 ≤ tG T
  | 0 => Nat.zero_le _
  | n + 1 => by
    rw [vbf_s]
    split
    · exact fb_ct_le _ _
    · exact vbf_le T n
theorem vbf_skip {T : vt_T} {e : Nat} : ∀ n, (∀ i, i < n → vop T (cd6 5 (e + i)) (tG T) ≤ (vbf T e).1) → vbf T (e + n) = vbf T e
  | 0, _ => rfl
  | n + 1, h => by
    rw [← Nat.add_assoc, vbf_s, vbf_skip n (fun i hi => h i (by omega)), if_neg (by have := h n (by omega); omega)]
/-- the search's cells -/
def vBs (μ : vm_M) (b : Nat) : Prop := (μ.1 b = some (.inl (0, [some (some (b + 1)), none, none])) ∧ μ.1 (b + 1) = some (.inr (5, 6))) ∧ ∀ j, j < 6 → μ.1 (b + 2 + j) = some (.inr (0, 5)) ∧ μ.2.2.1 (b + 1) j = some (b + 2 + j)
theorem vBs.keep {μ μ' : vm_M} {b : Nat} (h : vBs μ b) (h1 : μ'.1 = μ.1) (h2 : μ'.2.2.1 (b + 1) = μ.2.2.1 (b + 1)) : vBs μ' b := by
  unfold vBs
  rw [h1, h2]
  exact h
section BEST
variable {E : vm_V} {μ : vm_M} {b t : Nat} {T : vt_T}
theorem vBs.r0 (h : vBs μ b) : vm_gR μ b 0 0 (b + 1) := ⟨_, h.1.1, rfl⟩
theorem vBs.w1 (h : vBs μ b) : vm_gW μ b 0 1 := ⟨_, h.1.1, rfl⟩
theorem vBs.w2 (h : vBs μ b) : vm_gW μ b 0 2 := ⟨_, h.1.1, rfl⟩
theorem vBs.g1 {v : Int32} (h : vBs μ b) (hv : μ.2.1 b 1 = v) : vm_gI μ b 0 1 v := ⟨_, h.1.1, rfl, hv⟩
theorem vBs.ob (h : vBs μ b) : vm_ob μ b 0 := ⟨_, h.1.1⟩
theorem vBs.s {j : Nat} (h : vBs μ b) (hj : j < 6) : μ.1 (b + 2 + j) = some (.inr (0, 5)) := (h.2 j hj).1
theorem vBs.v {j : Nat} (h : vBs μ b) (hj : j < 6) : μ.2.2.1 (b + 1) j = some (b + 2 + j) := (h.2 j hj).2
theorem c_BS_inReach {k u : Nat} (h : vBs μ b) (ht : vt_C μ t T) (hk : k ≤ 5) (hr : ∀ g, g < tG T → μ.2.1 (b + 2 + k) g = nI (vsp T k u g)) : vm_Ex E 1 n_BS_inReach [.ref b, .ref t, .int (nI k)] 0 0 μ (vm_PI (nI (vir T k u)) μ) := by
  have hG := ht.ok.G5
  refine vm_start (D := 0) (by decide) rfl (Nat.le_of_ble_eq_true rfl) (k := k_BS_inReach) rfl (L := [.ref b, .ref t, .int (nI k), .retAddr 0, .retAddr 0]) rfl ?_
  refine vm_r_iconst (kI := nI 0) rfl ?_
  refine vm_r_istore_n3 rfl rfl rfl ?_
  refine vm_r_iconst (kI := nI 0) rfl ?_
  refine vm_r_istore4 rfl rfl ?_
  refine vm_up (P := fun i => vm_W E (vm_Ex E 0) k_BS_inReach _ (5, [.ref b, .ref t, .int (nI k), .int (nI (fb_ct (fun g => decide (vsp T k u g ≤ tE T g)) i)), .int (nI i)], [], 0, 0, μ)) (N := tG T) ?_ ?_ 0 (by omega)
  · refine vm_r_iload rfl rfl ?_
    refine vm_r_aload_n rfl rfl rfl ?_
    refine vm_r_getI rfl (ht.gG) ?_
    first | refine vm_r_icmp_geN rfl (by omega) (by omega) (fun _ => ?_) (fun hn => absurd hn (by omega)) | refine vm_r_icmp_ge rfl (fun _ => ?_) (fun hn => absurd hn (by omega))
    refine vm_r_iload_n rfl rfl rfl ?_
    refine vm_r_ret rfl (fun h => by cases h) (vm_PI.of rfl)
  · intro i hi ih
    have hE := ht.ok.E40 hi
    have hb : vsp T k u i ≤ k * 10 := vdn_le _ (cd6_ok hk) (ht.ok.A hi) k hk
    rw [fb_ct_succ _ i] at ih
    refine vm_r_iload rfl rfl ?_
    refine vm_r_aload_n rfl rfl rfl ?_
    refine vm_r_getI rfl (ht.gG) ?_
    first | refine vm_r_icmp_geN rfl (by omega) (by omega) (fun hn => absurd hn (by omega)) (fun _ => ?_) | refine vm_r_icmp_ge rfl (fun hn => absurd hn (by omega)) (fun _ => ?_)
    refine vm_r_aload_n rfl rfl rfl ?_
    refine vm_r_getR rfl (h.r0) ?_
    refine vm_r_iload_n rfl rfl rfl ?_
    refine vm_r_aaload rfl (Or.inr h.1.2) (by omega) (by omega) (h.v (by omega)) ?_
    refine vm_r_iload rfl rfl ?_
    refine vm_r_iaload rfl (h.s (by omega)) (by omega) (by omega) (hr i hi) ?_
    refine vm_r_aload_n rfl rfl rfl ?_
    refine vm_r_getR rfl (ht.s.rE) ?_
    refine vm_r_iload rfl rfl ?_
    refine vm_r_iaload rfl (ht.s.sE) (by omega) (by omega) (ht.vE hi) ?_
    first | refine vm_r_icmp_gtN rfl (by omega) (by omega) (fun e => ?_) (fun e => ?_) | refine vm_r_icmp_gt rfl (fun e => ?_) (fun e => ?_)
    · rw [if_neg (by simp; omega)] at ih
      first | refine vm_r_iinc4N (y := 1) rfl rfl ?_ | refine vm_r_iinc4 rfl rfl ?_
      refine vm_r_goto rfl ?_
      exact ih
    · rw [if_pos (by simp; omega)] at ih
      first | refine vm_r_iinc3N (y := 1) rfl rfl ?_ | refine vm_r_iinc3 rfl rfl ?_
      first | refine vm_r_iinc4N (y := 1) rfl rfl ?_ | refine vm_r_iinc4 rfl rfl ?_
      refine vm_r_goto rfl ?_
      exact ih
theorem c_BS_spend {k u s : Nat} (h : vBs μ b) (ht : vt_C μ t T) (hd : t + 5 < b ∨ b + 7 < t) (hk : k < 5) (hs : s < 6) (hr : ∀ g, g < tG T → μ.2.1 (b + 2 + k) g = nI (vsp T k u g)) :
    vm_Ex E 3 n_BS_spend [.ref b, .ref t, .int (nI k), .int (nI s)] 0 0 μ (vm_PV (fun μ' => vf μ μ' (b + 2 + (k + 1)) (b + 2 + (k + 1)) ∧ ∀ g, g < tG T → μ'.2.1 (b + 2 + (k + 1)) g = nI (vsp T (k + 1) (6 * u + s) g))) := by
  have hG := ht.ok.G5
  refine vm_start (D := 2) (by decide) rfl (Nat.le_of_ble_eq_true rfl) (k := k_BS_spend) rfl (L := [.ref b, .ref t, .int (nI k), .int (nI s), .retAddr 0]) rfl ?_
  refine vm_r_iconst (kI := nI 0) rfl ?_
  refine vm_r_istore4 rfl rfl ?_
  refine vm_up (P := fun i => ∀ μ1 : vm_M, vf μ μ1 (b + 2 + (k + 1)) (b + 2 + (k + 1)) → (∀ g, g < i → μ1.2.1 (b + 2 + (k + 1)) g = nI (vsp T (k + 1) (6 * u + s) g)) → vm_W E (vm_Ex E 2) k_BS_spend _ (3, [.ref b, .ref t, .int (nI k), .int (nI s), .int (nI i)], [], 0, 0, μ1)) (N := tG T) ?_ ?_ 0 (by omega) μ vf.rf (fun g hg => absurd hg (Nat.not_lt_zero g))
  · intro μ1 f1 hg1
    have ht1 := ht.keep f1 (by omega)
    refine vm_r_iload rfl rfl ?_
    refine vm_r_aload_n rfl rfl rfl ?_
    refine vm_r_getI rfl (ht1.gG) ?_
    first | refine vm_r_icmp_geN rfl (by omega) (by omega) (fun _ => ?_) (fun hn => absurd hn (by omega)) | refine vm_r_icmp_ge rfl (fun _ => ?_) (fun hn => absurd hn (by omega))
    refine vm_r_vret rfl (⟨rfl, f1, hg1⟩)
  · intro i hi ih μ1 f1 hg1
    have ht1 := ht.keep f1 (by omega)
    have h1 := h.keep f1.1 (by rw [f1.2.1])
    have hr1 : μ1.2.1 (b + 2 + k) i = nI (vsp T k u i) := by
      rw [f1.2.2 _ (by omega)]
      exact hr i hi
    refine vm_r_iload rfl rfl ?_
    refine vm_r_aload_n rfl rfl rfl ?_
    refine vm_r_getI rfl (ht1.gG) ?_
    first | refine vm_r_icmp_geN rfl (by omega) (by omega) (fun hn => absurd hn (by omega)) (fun _ => ?_) | refine vm_r_icmp_ge rfl (fun hn => absurd hn (by omega)) (fun _ => ?_)
    refine vm_r_aload_n rfl rfl rfl ?_
    refine vm_r_getR rfl (h1.r0) ?_
    refine vm_r_iload_n rfl rfl rfl ?_
    refine vm_r_iconst (kI := nI 1) rfl ?_
    first | refine vm_r_iaddN rfl ?_ | refine vm_r_iadd rfl ?_
    refine vm_r_aaload rfl (Or.inr h1.1.2) (by omega) (by omega) (h1.v (by omega)) ?_
    refine vm_r_iload rfl rfl ?_
    refine vm_r_aload_n rfl rfl rfl ?_
    refine vm_r_getR rfl (h1.r0) ?_
    refine vm_r_iload_n rfl rfl rfl ?_
    refine vm_r_aaload rfl (Or.inr h1.1.2) (by omega) (by omega) (h1.v (by omega)) ?_
    refine vm_r_iload rfl rfl ?_
    refine vm_r_iaload rfl (h1.s (by omega)) (by omega) (by omega) (hr1) ?_
    refine vm_r_aload_n rfl rfl rfl ?_
    refine vm_r_iload_n rfl rfl rfl ?_
    refine vm_r_iload_n rfl rfl rfl ?_
    refine vm_r_iload rfl rfl ?_
    refine vm_r_aload_n rfl rfl rfl ?_
    refine vm_r_getR rfl (ht1.s.rK) ?_
    refine vm_r_iload rfl rfl ?_
    refine vm_r_iaload rfl (ht1.s.sK) (by omega) (by omega) (ht1.vK hi) ?_
    refine vm_r_cv5I rfl (by decide) (ht1.s.ob) (Nat.le_of_ble_eq_true rfl) (vm_Ex_le (by first | exact Nat.le_of_ble_eq_true rfl | omega) (c_TN_distanceAt ht1 hk hs hi (ht1.ok.K4 hi))) ?_
    first | refine vm_r_iaddN rfl ?_ | refine vm_r_iadd rfl ?_
    refine vm_r_iastore rfl (h1.s (by omega)) (by omega) (by omega) ?_
    first | refine vm_r_iinc4N (y := 1) rfl rfl ?_ | refine vm_r_iinc4 rfl rfl ?_
    refine vm_r_goto rfl ?_
    refine ih _ (f1.tr (vf.mI (Nat.le_refl _) (Nat.le_refl _))) fun g hg => ?_
    by_cases e : g = i
    · subst e
      rw [rI_eq, vsp_up hk hs]
    · rw [rI_nk e]
      exact hg1 g (by omega)
theorem v_pow6 (j : Nat) : 0 < 6 ^ j := Nat.pow_pos (by decide)
theorem c_BS_descend : ∀ (j k u : Nat) (μ : vm_M), k + j = 5 → vBs μ b → vt_C μ t T → (t + 5 < b ∨ b + 7 < t) → (∀ g, g < tG T → μ.2.1 (b + 2 + k) g = nI (vsp T k u g)) → μ.2.1 b 1 = nI (vbf T (u * 6 ^ j)).1 → μ.2.1 b 2 = nI (cd6 5 (vbf T (u * 6 ^ j)).2) →
    vm_Ex E (4 + j) n_BS_descend [.ref b, .ref t, .int (nI k), .int (nI (cd6 k u))] 0 0 μ (vm_PV (fun μ' => vf μ μ' b (b + 7) ∧ (∀ i, i ≤ k → μ'.2.1 (b + 2 + i) = μ.2.1 (b + 2 + i)) ∧ μ'.2.1 b 1 = nI (vbf T (u * 6 ^ j + 6 ^ j)).1 ∧ μ'.2.1 b 2 = nI (cd6 5 (vbf T (u * 6 ^ j + 6 ^ j)).2))) := by
  intro j
  induction j with
  | zero =>
    intro k u μ hkj h ht hd hr h1 h2
    obtain rfl : k = 5 := hkj
    have hG := ht.ok.G5
    rw [show u * 6 ^ 0 = u from Nat.mul_one u] at h1 h2 ⊢
    rw [show (6 : Nat) ^ 0 = 1 from rfl]
    have hm := vbf_le T u
    have hi : vir T 5 u ≤ tG T := fb_ct_le _ _
    have es := vbf_s T u
    rw [← vir_op] at es
    refine vm_start (D := 3) (by decide) rfl (Nat.le_of_ble_eq_true rfl) (k := k_BS_descend) rfl (L := [.ref b, .ref t, .int (nI 5), .int (nI (cd6 5 u)), .retAddr 0, .retAddr 0]) rfl ?_
    refine vm_r_iload_n rfl rfl rfl ?_
    refine vm_r_if_ltN rfl (by omega) ?_
    refine vm_r_iload_n rfl rfl rfl ?_
    refine vm_r_iconst (kI := nI 5) rfl ?_
    first | refine vm_r_icmp_leN rfl (by omega) (by omega) (fun _ => ?_) (fun hn => absurd hn (by omega)) | refine vm_r_icmp_le rfl (fun _ => ?_) (fun hn => absurd hn (by omega))
    refine vm_r_aload_n rfl rfl rfl ?_
    refine vm_r_aload_n rfl rfl rfl ?_
    refine vm_r_iload_n rfl rfl rfl ?_
    refine vm_r_cv3I rfl (by decide) (h.ob) (Nat.le_of_ble_eq_true rfl) (vm_Ex_le (by first | exact Nat.le_of_ble_eq_true rfl | omega) (c_BS_inReach h ht (Nat.le_refl 5) hr)) ?_
    refine vm_r_istore4 rfl rfl ?_
    refine vm_r_iload rfl rfl ?_
    refine vm_r_aload_n rfl rfl rfl ?_
    refine vm_r_getI rfl (h.g1 h1) ?_
    first | refine vm_r_icmp_gtN rfl (by omega) (by omega) (fun e => ?_) (fun e => ?_) | refine vm_r_icmp_gt rfl (fun e => ?_) (fun e => ?_)
    · have e1 : vbf T (u + 1) = (vir T 5 u, u) := by
        rw [es, if_pos e]
      rw [e1]
      refine vm_r_iload_n rfl rfl rfl ?_
      refine vm_r_iconst (kI := nI 5) rfl ?_
      first | refine vm_r_icmp_neN rfl (by omega) (by omega) (fun hn => absurd hn (by omega)) (fun _ => ?_) | refine vm_r_icmp_ne rfl (fun hn => absurd hn (by omega)) (fun _ => ?_)
      refine vm_r_aload_n rfl rfl rfl ?_
      refine vm_r_iload rfl rfl ?_
      refine vm_r_putI rfl (vBs.w1 h) ?_
      refine vm_r_aload_n rfl rfl rfl ?_
      refine vm_r_iload_n rfl rfl rfl ?_
      refine vm_r_putI rfl (vBs.w2 h) ?_
      refine vm_r_vret rfl (⟨rfl, (vf.mI (by omega) (by omega)).tr (vf.mI (by omega) (by omega)), fun i hi => ?_, ?_, ?_⟩)
      · funext g
        simp (disch := omega) only [rI_no]
      · simp (disch := omega) only [rI_nk, rI_eq]
      · rw [rI_eq]
    · have e1 : vbf T (u + 1) = vbf T u := by
        rw [es, if_neg (by omega)]
      rw [e1]
      refine vm_r_vret rfl (⟨rfl, vf.rf, fun _ _ => rfl, h1, h2⟩)
  | succ j ih =>
    intro k u μ hkj h ht hd hr h1 h2
    have hk : k < 5 := by omega
    have hG := ht.ok.G5
    have hm := vbf_le T (u * 6 ^ (j + 1))
    have hi : vir T k u ≤ tG T := fb_ct_le _ _
    have hcl := (cd6_d (k := k) (u := u) (by omega)).1
    refine vm_start (D := (4 + j)) (by decide) rfl (Nat.le_of_ble_eq_true rfl) (k := k_BS_descend) rfl (L := [.ref b, .ref t, .int (nI k), .int (nI (cd6 k u)), .retAddr 0, .retAddr 0]) rfl ?_
    refine vm_r_iload_n rfl rfl rfl ?_
    refine vm_r_if_ltN rfl (by omega) ?_
    refine vm_r_iload_n rfl rfl rfl ?_
    refine vm_r_iconst (kI := nI 5) rfl ?_
    first | refine vm_r_icmp_leN rfl (by omega) (by omega) (fun _ => ?_) (fun hn => absurd hn (by omega)) | refine vm_r_icmp_le rfl (fun _ => ?_) (fun hn => absurd hn (by omega))
    refine vm_r_aload_n rfl rfl rfl ?_
    refine vm_r_aload_n rfl rfl rfl ?_
    refine vm_r_iload_n rfl rfl rfl ?_
    refine vm_r_cv3I rfl (by decide) (h.ob) (Nat.le_of_ble_eq_true rfl) (vm_Ex_le (by first | exact Nat.le_of_ble_eq_true rfl | omega) (c_BS_inReach h ht (by omega) hr)) ?_
    refine vm_r_istore4 rfl rfl ?_
    refine vm_r_iload rfl rfl ?_
    refine vm_r_aload_n rfl rfl rfl ?_
    refine vm_r_getI rfl (h.g1 h1) ?_
    first | refine vm_r_icmp_gtN rfl (by omega) (by omega) (fun e => ?_) (fun e => ?_) | refine vm_r_icmp_gt rfl (fun e => ?_) (fun e => ?_)
    · refine vm_r_iload_n rfl rfl rfl ?_
      refine vm_r_iconst (kI := nI 5) rfl ?_
      first | refine vm_r_icmp_neN rfl (by omega) (by omega) (fun _ => ?_) (fun hn => absurd hn (by omega)) | refine vm_r_icmp_ne rfl (fun _ => ?_) (fun hn => absurd hn (by omega))
      refine vm_r_iconst (kI := nI 0) rfl ?_
      refine vm_r_istore5 rfl rfl ?_
      refine vm_up (P := fun s => ∀ μ1 : vm_M, vf μ μ1 b (b + 7) → (∀ i, i ≤ k → μ1.2.1 (b + 2 + i) = μ.2.1 (b + 2 + i)) → μ1.2.1 b 1 = nI (vbf T (u * 6 ^ (j + 1) + s * 6 ^ j)).1 → μ1.2.1 b 2 = nI (cd6 5 (vbf T (u * 6 ^ (j + 1) + s * 6 ^ j)).2) →
        vm_W E (vm_Ex E (4 + j)) k_BS_descend _ (48, [.ref b, .ref t, .int (nI k), .int (nI (cd6 k u)), .int (nI (vir T k u)), .int (nI s)], [], 0, 0, μ1)) (N := 6) ?_ ?_ 0 (by decide) μ vf.rf (fun _ _ => rfl) (by rw [Nat.zero_mul]; exact h1) (by rw [Nat.zero_mul]; exact h2)
      · intro μ1 f1 g1 g2 g3
        have e6 : 6 * 6 ^ j = 6 ^ (j + 1) := by rw [Nat.pow_succ, Nat.mul_comm]
        rw [e6] at g2 g3
        refine vm_r_iload rfl rfl ?_
        refine vm_r_bipush (kI := nI 6) rfl ?_
        first | refine vm_r_icmp_geN rfl (by omega) (by omega) (fun _ => ?_) (fun hn => absurd hn (by omega)) | refine vm_r_icmp_ge rfl (fun _ => ?_) (fun hn => absurd hn (by omega))
        refine vm_r_vret rfl (⟨rfl, f1, g1, g2, g3⟩)
      · intro s hs ihs μ1 f1 g1 g2 g3
        have ht1 := ht.keep f1 (by omega)
        have hb1 := h.keep f1.1 (by rw [f1.2.1])
        have hr1 : ∀ g, g < tG T → μ1.2.1 (b + 2 + k) g = nI (vsp T k u g) := fun g hg => by
          rw [g1 k (Nat.le_refl k)]
          exact hr g hg
        have eU : u * 6 ^ (j + 1) + s * 6 ^ j = (6 * u + s) * 6 ^ j := by rw [Nat.add_mul, Nat.pow_succ, Nat.mul_comm (6 ^ j) 6, ← Nat.mul_assoc, Nat.mul_comm u 6]
        have eV : u * 6 ^ (j + 1) + (s + 1) * 6 ^ j = (6 * u + s) * 6 ^ j + 6 ^ j := by rw [← eU, Nat.add_mul s 1, Nat.one_mul, Nat.add_assoc]
        rw [eU] at g2 g3
        rw [eV] at ihs
        refine vm_r_iload rfl rfl ?_
        refine vm_r_bipush (kI := nI 6) rfl ?_
        first | refine vm_r_icmp_geN rfl (by omega) (by omega) (fun hn => absurd hn (by omega)) (fun _ => ?_) | refine vm_r_icmp_ge rfl (fun hn => absurd hn (by omega)) (fun _ => ?_)
        refine vm_r_aload_n rfl rfl rfl ?_
        refine vm_r_aload_n rfl rfl rfl ?_
        refine vm_r_iload_n rfl rfl rfl ?_
        refine vm_r_iload rfl rfl ?_
        refine vm_r_cv4V rfl (by decide) (hb1.ob) (Nat.le_of_ble_eq_true rfl) (vm_Ex_le (by first | exact Nat.le_of_ble_eq_true rfl | omega) (c_BS_spend hb1 ht1 hd hk hs hr1)) (fun μ2 q2 => ?_)
        obtain ⟨f2, hr2⟩ := q2
        have ht2 := ht1.keep f2 (by omega)
        have hb2 := hb1.keep f2.1 (by rw [f2.2.1])
        refine vm_r_aload_n rfl rfl rfl ?_
        refine vm_r_aload_n rfl rfl rfl ?_
        refine vm_r_iload_n rfl rfl rfl ?_
        refine vm_r_iconst (kI := nI 1) rfl ?_
        first | refine vm_r_iaddN rfl ?_ | refine vm_r_iadd rfl ?_
        refine vm_r_iload_n rfl rfl rfl ?_
        refine vm_r_iload_n rfl rfl rfl ?_
        refine vm_r_iload rfl rfl ?_
        refine vm_r_cs3I rfl (by decide) (Nat.le_of_ble_eq_true rfl) (vm_Ex_le (by first | exact Nat.le_of_ble_eq_true rfl | omega) (vm_PI.cast (c_SY_withSound hcl hk (by omega)) (congrArg nI (cd6_up hk hs)))) ?_
        refine vm_r_cs4V rfl (by decide) (Nat.le_of_ble_eq_true rfl) (vm_Ex_le (by first | exact Nat.le_of_ble_eq_true rfl | omega) (ih (k + 1) (6 * u + s) μ2 (by omega) hb2 ht2 hd hr2 (by rw [f2.2.2 _ (by omega)]; exact g2) (by rw [f2.2.2 _ (by omega)]; exact g3))) (fun μ3 q3 => ?_)
        obtain ⟨f3, k1, k2, k3⟩ := q3
        first | refine vm_r_iinc5N (y := 1) rfl rfl ?_ | refine vm_r_iinc5 rfl rfl ?_
        refine vm_r_goto rfl ?_
        refine ihs _ ((f1.tr (f2.wd (by omega) (by omega))).tr f3) (fun i hi => ?_) k2 k3
        rw [k1 i (by omega), f2.2.2 _ (by omega)]
        exact g1 i hi
    · have e1 : vbf T (u * 6 ^ (j + 1) + 6 ^ (j + 1)) = vbf T (u * 6 ^ (j + 1)) := by
        refine vbf_skip _ fun i hi => Nat.le_trans (vop_le (k := k) (u := u) (by omega) ?_) e
        rw [show 5 - k = j + 1 by omega, Nat.mul_comm, Nat.mul_add_div (v_pow6 (j + 1)), Nat.div_eq_of_lt hi, Nat.add_zero]
      rw [e1]
      refine vm_r_vret rfl (⟨rfl, vf.rf, fun _ _ => rfl, h1, h2⟩)
theorem cd6_0 : cd6 5 0 = 0 := by decide
theorem c_BS_run (h : vBs μ b) (ht : vt_C μ t T) (hd : t + 5 < b ∨ b + 7 < t) (hz : ∀ g, g < 5 → μ.2.1 (b + 2) g = 0) : vm_Ex E 10 n_BS_run [.ref b, .ref t] 0 0 μ (vm_PV (fun μ' => vf μ μ' b (b + 7) ∧ (∀ g, g < 5 → μ'.2.1 (b + 2) g = 0) ∧ μ'.2.1 b 1 = nI (vbf T 7776).1 ∧ μ'.2.1 b 2 = nI (cd6 5 (vbf T 7776).2))) := by
  have hG := ht.ok.G5
  have f1 : vf μ (vm_mI (vm_mI μ b 1 (nI 0)) b 2 (nI 0)) b (b + 7) := (vf.mI (by omega) (by omega)).tr (vf.mI (by omega) (by omega))
  have ht1 := ht.keep f1 hd
  have hb1 : vBs (vm_mI (vm_mI μ b 1 (nI 0)) b 2 (nI 0)) b := h
  have e1 : (vm_mI (vm_mI μ b 1 (nI 0)) b 2 (nI 0)).2.1 b 1 = nI (vbf T (0 * 6 ^ 5)).1 := by
    simp (disch := omega) only [rI_nk, rI_eq]
    rfl
  have e2 : (vm_mI (vm_mI μ b 1 (nI 0)) b 2 (nI 0)).2.1 b 2 = nI (cd6 5 (vbf T (0 * 6 ^ 5)).2) := by
    rw [rI_eq, Nat.zero_mul, show (vbf T 0).2 = 0 from rfl, cd6_0]
  have e0 : ∀ g, g < 5 → (vm_mI (vm_mI μ b 1 (nI 0)) b 2 (nI 0)).2.1 (b + 2) g = 0 := fun g hg => by
    simp (disch := omega) only [rI_no]
    exact hz g hg
  refine vm_start (D := 9) (by decide) rfl (Nat.le_of_ble_eq_true rfl) (k := k_BS_run) rfl (L := [.ref b, .ref t]) rfl ?_
  refine vm_r_aload_n rfl rfl rfl ?_
  refine vm_r_iconst (kI := nI 0) rfl ?_
  refine vm_r_putI rfl (h.w1) ?_
  refine vm_r_aload_n rfl rfl rfl ?_
  refine vm_r_iconst (kI := nI 0) rfl ?_
  refine vm_r_putI rfl (h.w2) ?_
  refine vm_r_aload_n rfl rfl rfl ?_
  refine vm_r_aload_n rfl rfl rfl ?_
  refine vm_r_iconst (kI := nI 0) rfl ?_
  refine vm_r_iconst (kI := nI 0) rfl ?_
  refine vm_r_cs4V rfl (by decide) (Nat.le_of_ble_eq_true rfl) (vm_Ex_le (by first | exact Nat.le_of_ble_eq_true rfl | omega) (c_BS_descend 5 0 0 _ rfl hb1 ht1 hd (fun g hg => e0 g (by omega)) e1 e2)) (fun μ2 q2 => ?_)
  obtain ⟨f2, k1, k2, k3⟩ := q2
  refine vm_r_vret rfl (⟨rfl, f1.tr f2, fun g hg => by rw [show b + 2 = b + 2 + 0 from rfl, k1 0 (Nat.le_refl 0)]; exact e0 g hg, k2, k3⟩)
end BEST
