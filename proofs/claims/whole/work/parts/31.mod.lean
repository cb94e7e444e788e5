/-! The model's cells; what its helpers do. -/
def vmfl (m : Nat) : List (Option (Option Nat)) := [none, some (some (m + 1)), some (some (m + 2)), some (some (m + 3)), some (some (m + 4)), some (some (m + 5)), some (some (m + 6)), some (some (m + 7)), none, some (some (m + 8)), none, some (some (m + 9)), none, some (some (m + 10)), none, none, some (some (m + 11)), none, some (some (m + 12)), some (some (m + 13)), some (some (m + 14)), some (some (m + 15))]
def vMh (sh : Nat → Option vm_Sh) (m : Nat) : Prop := sh m = some (.inl (7, vmfl m)) ∧ sh (m + 1) = some (.inr (0, 200)) ∧ sh (m + 2) = some (.inr (0, 12)) ∧ sh (m + 3) = some (.inr (0, 12)) ∧ sh (m + 4) = some (.inr (0, 63)) ∧ sh (m + 5) = some (.inr (0, 63)) ∧ sh (m + 6) = some (.inr (0, 63)) ∧ sh (m + 7) = some (.inr (0, 504)) ∧ sh (m + 8) = some (.inr (0, 126)) ∧ sh (m + 9) = some (.inr (0, 18)) ∧ sh (m + 10) = some (.inr (0, 16)) ∧ sh (m + 11) = some (.inr (0, 2)) ∧ sh (m + 12) = some (.inr (0, 5)) ∧ sh (m + 13) = some (.inr (0, 7776)) ∧ sh (m + 14) = some (.inr (0, 7776)) ∧ sh (m + 15) = some (.inr (0, 7776))
section MODH
variable {μ : vm_M} {m : Nat}
theorem vMh.s1 (h : vMh μ.1 m) : μ.1 (m + 1) = some (.inr (0, 200)) := h.2.1
theorem vMh.s2 (h : vMh μ.1 m) : μ.1 (m + 2) = some (.inr (0, 12)) := h.2.2.1
theorem vMh.s3 (h : vMh μ.1 m) : μ.1 (m + 3) = some (.inr (0, 12)) := h.2.2.2.1
theorem vMh.s4 (h : vMh μ.1 m) : μ.1 (m + 4) = some (.inr (0, 63)) := h.2.2.2.2.1
theorem vMh.s5 (h : vMh μ.1 m) : μ.1 (m + 5) = some (.inr (0, 63)) := h.2.2.2.2.2.1
theorem vMh.s6 (h : vMh μ.1 m) : μ.1 (m + 6) = some (.inr (0, 63)) := h.2.2.2.2.2.2.1
theorem vMh.s7 (h : vMh μ.1 m) : μ.1 (m + 7) = some (.inr (0, 504)) := h.2.2.2.2.2.2.2.1
theorem vMh.s8 (h : vMh μ.1 m) : μ.1 (m + 8) = some (.inr (0, 126)) := h.2.2.2.2.2.2.2.2.1
theorem vMh.s9 (h : vMh μ.1 m) : μ.1 (m + 9) = some (.inr (0, 18)) := h.2.2.2.2.2.2.2.2.2.1
theorem vMh.s10 (h : vMh μ.1 m) : μ.1 (m + 10) = some (.inr (0, 16)) := h.2.2.2.2.2.2.2.2.2.2.1
theorem vMh.s11 (h : vMh μ.1 m) : μ.1 (m + 11) = some (.inr (0, 2)) := h.2.2.2.2.2.2.2.2.2.2.2.1
theorem vMh.s12 (h : vMh μ.1 m) : μ.1 (m + 12) = some (.inr (0, 5)) := h.2.2.2.2.2.2.2.2.2.2.2.2.1
theorem vMh.s13 (h : vMh μ.1 m) : μ.1 (m + 13) = some (.inr (0, 7776)) := h.2.2.2.2.2.2.2.2.2.2.2.2.2.1
theorem vMh.s14 (h : vMh μ.1 m) : μ.1 (m + 14) = some (.inr (0, 7776)) := h.2.2.2.2.2.2.2.2.2.2.2.2.2.2.1
theorem vMh.s15 (h : vMh μ.1 m) : μ.1 (m + 15) = some (.inr (0, 7776)) := h.2.2.2.2.2.2.2.2.2.2.2.2.2.2.2
theorem vMh.r1 (h : vMh μ.1 m) : vm_gR μ m 7 1 (m + 1) := ⟨_, h.1, rfl⟩
theorem vMh.r2 (h : vMh μ.1 m) : vm_gR μ m 7 2 (m + 2) := ⟨_, h.1, rfl⟩
theorem vMh.r3 (h : vMh μ.1 m) : vm_gR μ m 7 3 (m + 3) := ⟨_, h.1, rfl⟩
theorem vMh.r4 (h : vMh μ.1 m) : vm_gR μ m 7 4 (m + 4) := ⟨_, h.1, rfl⟩
theorem vMh.r5 (h : vMh μ.1 m) : vm_gR μ m 7 5 (m + 5) := ⟨_, h.1, rfl⟩
theorem vMh.r6 (h : vMh μ.1 m) : vm_gR μ m 7 6 (m + 6) := ⟨_, h.1, rfl⟩
theorem vMh.r7 (h : vMh μ.1 m) : vm_gR μ m 7 7 (m + 7) := ⟨_, h.1, rfl⟩
theorem vMh.r8 (h : vMh μ.1 m) : vm_gR μ m 7 9 (m + 8) := ⟨_, h.1, rfl⟩
theorem vMh.r9 (h : vMh μ.1 m) : vm_gR μ m 7 11 (m + 9) := ⟨_, h.1, rfl⟩
theorem vMh.r10 (h : vMh μ.1 m) : vm_gR μ m 7 13 (m + 10) := ⟨_, h.1, rfl⟩
theorem vMh.r11 (h : vMh μ.1 m) : vm_gR μ m 7 16 (m + 11) := ⟨_, h.1, rfl⟩
theorem vMh.r12 (h : vMh μ.1 m) : vm_gR μ m 7 18 (m + 12) := ⟨_, h.1, rfl⟩
theorem vMh.r13 (h : vMh μ.1 m) : vm_gR μ m 7 19 (m + 13) := ⟨_, h.1, rfl⟩
theorem vMh.r14 (h : vMh μ.1 m) : vm_gR μ m 7 20 (m + 14) := ⟨_, h.1, rfl⟩
theorem vMh.r15 (h : vMh μ.1 m) : vm_gR μ m 7 21 (m + 15) := ⟨_, h.1, rfl⟩
theorem vMh.w0 (h : vMh μ.1 m) : vm_gW μ m 7 0 := ⟨_, h.1, rfl⟩
theorem vMh.g0 {v : Int32} (h : vMh μ.1 m) (hv : μ.2.1 m 0 = v) : vm_gI μ m 7 0 v := ⟨_, h.1, rfl, hv⟩
theorem vMh.w8 (h : vMh μ.1 m) : vm_gW μ m 7 8 := ⟨_, h.1, rfl⟩
theorem vMh.g8 {v : Int32} (h : vMh μ.1 m) (hv : μ.2.1 m 8 = v) : vm_gI μ m 7 8 v := ⟨_, h.1, rfl, hv⟩
theorem vMh.w10 (h : vMh μ.1 m) : vm_gW μ m 7 10 := ⟨_, h.1, rfl⟩
theorem vMh.g10 {v : Int32} (h : vMh μ.1 m) (hv : μ.2.1 m 10 = v) : vm_gI μ m 7 10 v := ⟨_, h.1, rfl, hv⟩
theorem vMh.w12 (h : vMh μ.1 m) : vm_gW μ m 7 12 := ⟨_, h.1, rfl⟩
theorem vMh.g12 {v : Int32} (h : vMh μ.1 m) (hv : μ.2.1 m 12 = v) : vm_gI μ m 7 12 v := ⟨_, h.1, rfl, hv⟩
theorem vMh.w14 (h : vMh μ.1 m) : vm_gW μ m 7 14 := ⟨_, h.1, rfl⟩
theorem vMh.g14 {v : Int32} (h : vMh μ.1 m) (hv : μ.2.1 m 14 = v) : vm_gI μ m 7 14 v := ⟨_, h.1, rfl, hv⟩
theorem vMh.w15 (h : vMh μ.1 m) : vm_gW μ m 7 15 := ⟨_, h.1, rfl⟩
theorem vMh.g15 {v : Int32} (h : vMh μ.1 m) (hv : μ.2.1 m 15 = v) : vm_gI μ m 7 15 v := ⟨_, h.1, rfl, hv⟩
theorem vMh.w17 (h : vMh μ.1 m) : vm_gW μ m 7 17 := ⟨_, h.1, rfl⟩
theorem vMh.g17 {v : Int32} (h : vMh μ.1 m) (hv : μ.2.1 m 17 = v) : vm_gI μ m 7 17 v := ⟨_, h.1, rfl, hv⟩
theorem vMh.ob (h : vMh μ.1 m) : vm_ob μ m 7 := ⟨_, h.1⟩
end MODH
/-- what a row of ints says of a town; what is told of its gates -/
def vRow (I : Nat → Int32) (T : vt_T) : Prop := (∀ g k, g < tG T → k < 5 → I (5 * g + k) = nI (vd (tA T g) k)) ∧ (∀ p k, p < tP T → k < 5 → I (25 + 5 * p + k) = nI (vd (tB T p) k)) ∧ (∀ p, p < tP T → I (55 + p) = tH T p) ∧ I 61 = tI T ∧ I 62 = tO T
def vTold (I : Nat → Int32) (T : vt_T) : Prop := I 0 = nI (tG T) ∧ I 1 = nI (tP T) ∧ ∀ g, g < tG T → I (2 + g) = nI (tK T g) ∧ I (7 + g) = nI (tE T g)
def vMI (I : Nat → Nat → Int32) (m : Nat) (z : vZ) : Prop := (I m 0 = nI (zn z) ∧ ∀ j, j < zn z → I (m + 1) j = nI (zx z j)) ∧ vTold (I (m + 2)) (zT z) ∧ vRow (I (m + 5)) (zT z) ∧
  (I m 8 = nI (zp z) ∧ ∀ j, j < zp z → vRow (fun i => I (m + 7) (63 * j + i)) (zQ z j)) ∧ (I m 10 = nI (zk z) ∧ ∀ j, j < zk z → vRow (fun i => I (m + 8) (63 * j + i)) (zR z j)) ∧
  (I m 12 = nI (wN (zW z)) ∧ ∀ i, i < wN (zW z) → I (m + 9) (3 * i) = nI (wP (zW z) i) ∧ I (m + 9) (3 * i + 1) = nI (wG (zW z) i) ∧ I (m + 9) (3 * i + 2) = nI (wI (zW z) i)) ∧
  (I m 14 = nI (wM (zW z)) ∧ ∀ i, i < wM (zW z) → I (m + 10) (2 * i) = nI (wK (zW z) i) ∧ I (m + 10) (2 * i + 1) = nI (wS (zW z) i))
def vM (μ : vm_M) (m : Nat) (z : vZ) : Prop := vMh μ.1 m ∧ vMI μ.2.1 m z
def vOk (z : vZ) : Prop := vt_ok (zT z) ∧ vwok (zW z) ∧ (zn z ≤ 200 ∧ ∀ j, j < zn z → zx z j < 128) ∧ zp z ≤ 8 ∧ zk z ≤ 2 ∧ v_inv z
/-- scratch alone changes -/
def vg (μ μ' : vm_M) (m : Nat) : Prop := μ'.1 = μ.1 ∧ μ'.2.2 = μ.2.2 ∧ (∀ o, (o < m ∨ m + 15 < o ∨ (m + 1 ≤ o ∧ o ≤ m + 2) ∨ o = m + 5 ∨ (m + 7 ≤ o ∧ o ≤ m + 10)) → μ'.2.1 o = μ.2.1 o) ∧ ∀ k, k ≠ 15 → k ≠ 17 → μ'.2.1 m k = μ.2.1 m k
theorem vg.rf {μ : vm_M} {m : Nat} : vg μ μ m := ⟨rfl, rfl, fun _ _ => rfl, fun _ _ _ => rfl⟩
theorem vg.tr {μ μ1 μ2 : vm_M} {m : Nat} (h : vg μ μ1 m) (h2 : vg μ1 μ2 m) : vg μ μ2 m := ⟨h2.1.trans h.1, h2.2.1.trans h.2.1, fun o ho => (h2.2.2.1 o ho).trans (h.2.2.1 o ho), fun k h3 h4 => (h2.2.2.2 k h3 h4).trans (h.2.2.2 k h3 h4)⟩
theorem vf.g {μ μ1 : vm_M} {m lo hi : Nat} (h : vf μ μ1 lo hi) (hd : (m + 6 ≤ lo ∧ hi ≤ m + 6) ∨ (m + 11 ≤ lo ∧ hi ≤ m + 15) ∨ (m + 3 ≤ lo ∧ hi ≤ m + 4)) : vg μ μ1 m := ⟨h.1, h.2.1, fun o ho => h.2.2 o (by omega), fun k _ _ => by rw [h.2.2 m (by omega)]⟩
theorem vg.x {μ μ1 : vm_M} {m : Nat} (h : vg μ μ1 m) : vx μ μ1 m (m + 15) := ⟨h.1, by rw [h.2.1], fun o ho => ⟨h.2.2.1 o (by omega), by rw [h.2.1], by rw [h.2.1]⟩⟩
theorem vMI.g {μ μ1 : vm_M} {m : Nat} {z : vZ} (h : vMI μ.2.1 m z) (f : vg μ μ1 m) : vMI μ1.2.1 m z := by
  obtain ⟨-, -, f3, f4⟩ := f
  unfold vMI
  rw [f4 0 (by decide) (by decide), f4 8 (by decide) (by decide), f4 10 (by decide) (by decide), f4 12 (by decide) (by decide), f4 14 (by decide) (by decide), f3 (m + 1) (by omega), f3 (m + 2) (by omega), f3 (m + 5) (by omega), f3 (m + 7) (by omega), f3 (m + 8) (by omega), f3 (m + 9) (by omega), f3 (m + 10) (by omega)]
  exact h
theorem vM.g {μ μ1 : vm_M} {m : Nat} {z : vZ} (h : vM μ m z) (f : vg μ μ1 m) : vM μ1 m z := ⟨by rw [f.1]; exact h.1, h.2.g f⟩
/-- the side row's town -/
def vSd (μ : vm_M) (m : Nat) (T : vt_T) : Prop := vMh μ.1 m ∧ vTold (μ.2.1 (m + 2)) T ∧ vRow (μ.2.1 (m + 6)) T ∧ vt_ok T
def vSay (μ : vm_M) (m s : Nat) : Prop := ∀ k, k < 5 → μ.2.1 (m + 12) k = nI (vd s k)
def vPM (μ : vm_M) (m : Nat) (r : Int32 × vZ) : Option Value → vm_M → Prop := vm_PX (fun v μ' => v = r.1 ∧ vx μ μ' m (m + 15) ∧ vM μ' m r.2)
theorem vPM.pure {μ : vm_M} {m : Nat} {z : vZ} {v w : Int32} (h : vM μ m z) (e : w = v) : vPM μ m (v, z) (some (.int w)) μ := ⟨w, rfl, e, vx.rf, h⟩
theorem vPM.g {μ μ1 : vm_M} {m : Nat} {z : vZ} {v w : Int32} (h : vM μ m z) (f : vg μ μ1 m) (e : w = v) : vPM μ m (v, z) (some (.int w)) μ1 := ⟨w, rfl, e, f.x, h.g f⟩
theorem l_gt {x y : Int64} : 0 < lg_cmp x y ↔ y < x := by
  unfold lg_cmp
  by_cases h : y < x
  · simp [h]
  · rw [if_neg h]
    by_cases e : x = y
    · rw [if_pos e]
      exact ⟨fun q => absurd q (by decide), fun q => absurd q h⟩
    · rw [if_neg e]
      exact ⟨fun q => absurd q (by decide), fun q => absurd q h⟩
theorem l_lt {x y : Int64} : lg_cmp x y < 0 ↔ x < y := by
  unfold lg_cmp
  by_cases h : y < x
  · rw [if_pos h]
    exact ⟨fun q => absurd q (by decide), fun q => (Int64.lt_irrefl (Int64.lt_trans h q)).elim⟩
  · rw [if_neg h]
    by_cases e : x = y
    · subst e
      rw [if_pos rfl]
      exact ⟨fun q => absurd q (by decide), fun q => (Int64.lt_irrefl q).elim⟩
    · rw [if_neg e]
      refine ⟨fun _ => ?_, fun _ => by decide⟩
      rcases Int64.lt_or_eq_of_le (Int64.not_lt.mp h) with q | q
      · exact q
      · exact absurd q e
section MODB
variable {E : vm_V} {μ : vm_M} {m : Nat} {z : vZ} {T : vt_T}
theorem c_M_in {a b c : Int64} {x lo hi : Int32} (ha : a = x.toInt64) (hb : b = lo.toInt64) (hc : c = hi.toInt64) : vm_Ex E 1 n_M_in [.long a, .long b, .long c] 0 0 μ (vm_PI (vm_bi (lo ≤ x ∧ x ≤ hi)) μ) := by
  subst ha hb hc
  refine vm_start (D := 0) (by decide) rfl (Nat.le_of_ble_eq_true rfl) (k := k_M_in) rfl (L := [.long x.toInt64, .retAddr 0, .long lo.toInt64, .retAddr 0, .long hi.toInt64, .retAddr 0]) rfl ?_
  refine vm_r_lload_n rfl rfl rfl ?_
  refine vm_r_lload_n rfl rfl rfl ?_
  refine vm_r_lcmp rfl ?_
  refine vm_r_if_lt rfl (fun e => ?_) (fun e => ?_)
  · refine vm_r_iconst (kI := nI 0) rfl ?_
    refine vm_r_ret rfl (fun _ => by first | exact vm_bi_01 _ | decide) (vm_PI.of (vm_bi_f (fun q => absurd q.1 (Int32.not_le.mpr (Int32.toInt64_lt.mp (l_lt.mp e))))))
  · refine vm_r_lload_n rfl rfl rfl ?_
    refine vm_r_lload rfl rfl ?_
    refine vm_r_lcmp rfl ?_
    refine vm_r_if_gt rfl (fun f => ?_) (fun f => ?_)
    · refine vm_r_iconst (kI := nI 0) rfl ?_
      refine vm_r_ret rfl (fun _ => by first | exact vm_bi_01 _ | decide) (vm_PI.of (vm_bi_f (fun q => absurd q.2 (Int32.not_le.mpr (Int32.toInt64_lt.mp (l_gt.mp f))))))
    · refine vm_r_iconst (kI := nI 1) rfl ?_
      refine vm_r_goto rfl ?_
      refine vm_r_ret rfl (fun _ => by first | exact vm_bi_01 _ | decide) (vm_PI.of (vm_bi_t ⟨Int32.not_lt.mp (fun q => e (l_lt.mpr (Int32.toInt64_lt.mpr q))), Int32.not_lt.mp (fun q => f (l_gt.mpr (Int32.toInt64_lt.mpr q)))⟩))
theorem c_M_size {x y : Nat} (hx : x < 2 ^ 30) (hy : y < 2 ^ 30) : vm_Ex E 1 n_M_size [.int (nI x - nI y)] 0 0 μ (vm_PI (nI (vab x y)) μ) := by
  have hg := v_gap hx hy
  refine vm_start (D := 0) (by decide) rfl (Nat.le_of_ble_eq_true rfl) (k := k_M_size) rfl (L := [.int (nI x - nI y)]) rfl ?_
  refine vm_r_iload_n rfl rfl rfl ?_
  refine vm_r_if_ge rfl (fun e => ?_) (fun e => ?_)
  · rw [if_pos e] at hg
    refine vm_r_iload_n rfl rfl rfl ?_
    refine vm_r_ret rfl (fun h => by cases h) (vm_PI.of hg.symm)
  · rw [if_neg e, Int32.zero_sub] at hg
    refine vm_r_iload_n rfl rfl rfl ?_
    refine vm_r_ineg rfl ?_
    refine vm_r_goto rfl ?_
    refine vm_r_ret rfl (fun h => by cases h) (vm_PI.of hg.symm)
theorem c_M_has {n k : Nat} (hn : n < 2 ^ 31) (hk : k < 32) : vm_Ex E 1 n_M_has [.int (nI n), .int (nI k)] 0 0 μ (vm_PI (vm_bi (n / 2 ^ k % 2 = 1)) μ) := by
  have h3 := Nat.mod_lt (n / 2 ^ k) (show 0 < 2 by decide)
  refine vm_start (D := 0) (by decide) rfl (Nat.le_of_ble_eq_true rfl) (k := k_M_has) rfl (L := [.int (nI n), .int (nI k)]) rfl ?_
  refine vm_r_iload_n rfl rfl rfl ?_
  refine vm_r_iload_n rfl rfl rfl ?_
  refine vm_r_ishrN rfl (by omega) (by omega) ?_
  refine vm_r_iconst (kI := nI 1) rfl ?_
  first | refine vm_r_iandN rfl ?_ | refine vm_r_iand rfl ?_
  refine vm_r_top ((congrArg nI (v_and1 _))) ?_
  refine vm_r_iconst (kI := nI 1) rfl ?_
  first | refine vm_r_icmp_neN rfl (by omega) (by omega) (fun e => ?_) (fun e => ?_) | refine vm_r_icmp_ne rfl (fun e => ?_) (fun e => ?_)
  · refine vm_r_iconst (kI := nI 0) rfl ?_
    refine vm_r_ret rfl (fun _ => by first | exact vm_bi_01 _ | decide) (vm_PI.of (vm_bi_f (by omega)))
  · refine vm_r_iconst (kI := nI 1) rfl ?_
    refine vm_r_goto rfl ?_
    refine vm_r_ret rfl (fun _ => by first | exact vm_bi_01 _ | decide) (vm_PI.of (vm_bi_t (by omega)))
theorem v_ones : ∀ v, v < 32 → 0 < v → vbc (v &&& (v - 1)) + 1 = vbc v ∧ v &&& (v - 1) < v := by decide +kernel
theorem c_M_ones {n : Nat} (hn : n < 32) : vm_Ex E 1 n_M_ones [.int (nI n)] 0 0 μ (vm_PI (nI (vbc n)) μ) := by
  refine vm_start (D := 0) (by decide) rfl (Nat.le_of_ble_eq_true rfl) (k := k_M_ones) rfl (L := [.int (nI n), .retAddr 0, .retAddr 0]) rfl ?_
  refine vm_r_iconst (kI := nI 0) rfl ?_
  refine vm_r_istore_n1 rfl rfl rfl ?_
  refine vm_r_iload_n rfl rfl rfl ?_
  refine vm_r_istore_n2 rfl rfl rfl ?_
  have go : ∀ f v c, v ≤ f → v < 32 → c + vbc v = vbc n → vm_W E (vm_Ex E 0) k_M_ones (vm_PI (nI (vbc n)) μ) (4, [.int (nI n), .int (nI c), .int (nI v)], [], 0, 0, μ) := by
    intro f
    induction f with
    | zero =>
      intro v c h1 h2 h3
      obtain rfl : v = 0 := by omega
      have e0 : vbc 0 = 0 := by decide
      refine vm_r_iload_n rfl rfl rfl ?_
      first | refine vm_r_if_eqB rfl (fun _ => ?_) (fun hn => absurd hn (by omega)) | refine vm_r_if_eqN rfl (by omega) (fun _ => ?_) (fun hn => absurd hn (by omega)) | refine vm_r_if_eq rfl (fun _ => ?_) (fun hn => absurd hn (by omega))
      refine vm_r_iload_n rfl rfl rfl ?_
      refine vm_r_ret rfl (fun h => by cases h) (vm_PI.of (congrArg nI (by omega)))
    | succ f ih =>
      intro v c h1 h2 h3
      by_cases hv : v = 0
      · subst hv
        have e0 : vbc 0 = 0 := by decide
        refine vm_r_iload_n rfl rfl rfl ?_
        first | refine vm_r_if_eqB rfl (fun _ => ?_) (fun hn => absurd hn (by omega)) | refine vm_r_if_eqN rfl (by omega) (fun _ => ?_) (fun hn => absurd hn (by omega)) | refine vm_r_if_eq rfl (fun _ => ?_) (fun hn => absurd hn (by omega))
        refine vm_r_iload_n rfl rfl rfl ?_
        refine vm_r_ret rfl (fun h => by cases h) (vm_PI.of (congrArg nI (by omega)))
      · obtain ⟨o1, o2⟩ := v_ones v h2 (by omega)
        refine vm_r_iload_n rfl rfl rfl ?_
        first | refine vm_r_if_eqB rfl (fun hn => absurd hn (by omega)) (fun _ => ?_) | refine vm_r_if_eqN rfl (by omega) (fun hn => absurd hn (by omega)) (fun _ => ?_) | refine vm_r_if_eq rfl (fun hn => absurd hn (by omega)) (fun _ => ?_)
        first | refine vm_r_iinc1N (y := 1) rfl rfl ?_ | refine vm_r_iinc1 rfl rfl ?_
        refine vm_r_iload_n rfl rfl rfl ?_
        refine vm_r_iload_n rfl rfl rfl ?_
        refine vm_r_iconst (kI := nI 1) rfl ?_
        first | refine vm_r_isubN rfl (by omega) ?_ | refine vm_r_isub rfl ?_
        first | refine vm_r_iandN rfl ?_ | refine vm_r_iand rfl ?_
        refine vm_r_istore_n2 rfl rfl rfl ?_
        refine vm_r_goto rfl ?_
        exact ih _ _ (by omega) (by omega) (by omega)
  exact go n n 0 (Nat.le_refl _) hn (by omega)
def vnd (x y : Nat) : Int32 := if x < y then 1 else if y < x then -1 else 0
theorem vnd_add : ∀ x, x < 8 → ∀ y, y < 8 → nI x + vnd x y = nI (vstep x y) := by decide +kernel
theorem c_M_nearer {x y : Nat} (hx : x < 2 ^ 31) (hy : y < 2 ^ 31) : vm_Ex E 1 n_M_nearer [.int (nI x), .int (nI y)] 0 0 μ (vm_PI (vnd x y) μ) := by
  refine vm_start (D := 0) (by decide) rfl (Nat.le_of_ble_eq_true rfl) (k := k_M_nearer) rfl (L := [.int (nI x), .int (nI y)]) rfl ?_
  refine vm_r_iload_n rfl rfl rfl ?_
  refine vm_r_iload_n rfl rfl rfl ?_
  first | refine vm_r_icmp_geN rfl (by omega) (by omega) (fun e => ?_) (fun e => ?_) | refine vm_r_icmp_ge rfl (fun e => ?_) (fun e => ?_)
  · refine vm_r_iload_n rfl rfl rfl ?_
    refine vm_r_iload_n rfl rfl rfl ?_
    first | refine vm_r_icmp_leN rfl (by omega) (by omega) (fun f => ?_) (fun f => ?_) | refine vm_r_icmp_le rfl (fun f => ?_) (fun f => ?_)
    · refine vm_r_iconst (kI := nI 0) rfl ?_
      refine vm_r_ret rfl (fun h => by cases h) (vm_PI.of (by unfold vnd; rw [if_neg (by omega), if_neg (by omega)]; rfl))
    · refine vm_r_iconst rfl ?_
      refine vm_r_goto rfl ?_
      refine vm_r_ret rfl (fun h => by cases h) (vm_PI.of (by unfold vnd; rw [if_neg (by omega), if_pos (by omega)]))
  · refine vm_r_iconst (kI := nI 1) rfl ?_
    refine vm_r_goto rfl ?_
    refine vm_r_ret rfl (fun h => by cases h) (vm_PI.of (by unfold vnd; rw [if_pos (by omega)]; rfl))
end MODB
