/-! A town: its abstract state, its cells, its methods that change nothing. -/
/-- gates, persons; kind, ear, saying of a gate; saying, home of a person; let in, shut out -/
abbrev vt_T : Type := (Nat × Nat) × (Nat → Nat) × (Nat → Nat) × (Nat → Nat) × (Nat → Nat) × (Nat → Int32) × Int32 × Int32
def tG (T : vt_T) : Nat := T.1.1
def tP (T : vt_T) : Nat := T.1.2
def tK (T : vt_T) : Nat → Nat := T.2.1
def tE (T : vt_T) : Nat → Nat := T.2.2.1
def tA (T : vt_T) : Nat → Nat := T.2.2.2.1
def tB (T : vt_T) : Nat → Nat := T.2.2.2.2.1
def tH (T : vt_T) : Nat → Int32 := T.2.2.2.2.2.1
def tI (T : vt_T) : Int32 := T.2.2.2.2.2.2.1
def tO (T : vt_T) : Int32 := T.2.2.2.2.2.2.2
def vu {α : Type} (f : Nat → α) (i : Nat) (x : α) : Nat → α := fun j => if j = i then x else f j
theorem vu_eq {α : Type} {f : Nat → α} {i : Nat} {x : α} : vu f i x i = x := if_pos rfl
theorem vu_ne {α : Type} {f : Nat → α} {i j : Nat} {x : α} (h : j ≠ i) : vu f i x j = f j := if_neg h
def vt_ok (T : vt_T) : Prop := tG T ≤ 5 ∧ tP T ≤ 6 ∧ (∀ g, g < tG T → tK T g < 4 ∧ tE T g ≤ 40 ∧ vok (tA T g)) ∧ ∀ p, p < tP T → vok (tB T p)
/-- the cells of a town at t -/
def vs_T (sh : Nat → Option vm_Sh) (t : Nat) : Prop := sh t = some (.inl (4, [some (some (t + 1)), some (some (t + 2)), some (some (t + 3)), some (some (t + 4)), some (some (t + 5)), none, none, none, none])) ∧
  sh (t + 1) = some (.inr (0, 5)) ∧ sh (t + 2) = some (.inr (0, 5)) ∧ sh (t + 3) = some (.inr (0, 5)) ∧ sh (t + 4) = some (.inr (0, 6)) ∧ sh (t + 5) = some (.inr (0, 6))
def vt_I (I : Nat → Nat → Int32) (t : Nat) (T : vt_T) : Prop := I t 5 = nI (tG T) ∧ I t 6 = nI (tP T) ∧ I t 7 = tI T ∧ I t 8 = tO T ∧
  (∀ g, g < tG T → I (t + 1) g = nI (tK T g) ∧ I (t + 2) g = nI (tE T g) ∧ I (t + 3) g = nI (tA T g)) ∧ ∀ p, p < tP T → I (t + 4) p = nI (tB T p) ∧ I (t + 5) p = tH T p
def vt_C (μ : vm_M) (t : Nat) (T : vt_T) : Prop := vs_T μ.1 t ∧ vt_ok T ∧ vt_I μ.2.1 t T
/-- all but the ints of the cells lo to hi stays -/
def vf (μ μ' : vm_M) (lo hi : Nat) : Prop := μ'.1 = μ.1 ∧ μ'.2.2 = μ.2.2 ∧ ∀ o, (o < lo ∨ hi < o) → μ'.2.1 o = μ.2.1 o
theorem vf.rf {μ : vm_M} {lo hi : Nat} : vf μ μ lo hi := ⟨rfl, rfl, fun _ _ => rfl⟩
theorem vf.tr {μ μ1 μ2 : vm_M} {lo hi : Nat} (h : vf μ μ1 lo hi) (h2 : vf μ1 μ2 lo hi) : vf μ μ2 lo hi := ⟨h2.1.trans h.1, h2.2.1.trans h.2.1, fun o ho => (h2.2.2 o ho).trans (h.2.2 o ho)⟩
theorem vf.wd {μ μ1 : vm_M} {lo hi lo' hi' : Nat} (h : vf μ μ1 lo hi) (h1 : lo' ≤ lo) (h2 : hi ≤ hi') : vf μ μ1 lo' hi' := ⟨h.1, h.2.1, fun o ho => h.2.2 o (by omega)⟩
theorem vf.mI {μ : vm_M} {lo hi o k : Nat} {v : Int32} (h1 : lo ≤ o) (h2 : o ≤ hi) : vf μ (vm_mI μ o k v) lo hi := ⟨rfl, rfl, fun x hx => if_neg (by omega)⟩
theorem vf.cp {μ : vm_M} {lo hi o q k : Nat} (h1 : lo ≤ q) (h2 : q ≤ hi) : vf μ (vm_cp μ o q k) lo hi := ⟨rfl, rfl, fun x hx => if_neg (by omega)⟩
theorem rI_eq {μ : vm_M} {o k : Nat} {v : Int32} : (vm_mI μ o k v).2.1 o k = v := by
  show vm_u μ.2.1 o k v o k = v
  exact (congrFun vm_u_eq k).trans (if_pos rfl)
theorem rI_no {μ : vm_M} {o k x j : Nat} {v : Int32} (h : x ≠ o) : (vm_mI μ o k v).2.1 x j = μ.2.1 x j := by
  show vm_u μ.2.1 o k v x j = _
  rw [vm_u_ne h]
theorem rI_nk {μ : vm_M} {o k x j : Nat} {v : Int32} (h : j ≠ k) : (vm_mI μ o k v).2.1 x j = μ.2.1 x j := by
  show vm_u μ.2.1 o k v x j = _
  by_cases e : x = o
  · subst e
    exact (congrFun vm_u_eq j).trans (if_neg h)
  · rw [vm_u_ne e]
theorem cp_no {μ : vm_M} {o q n x j : Nat} (h : x ≠ q) : (vm_cp μ o q n).2.1 x j = μ.2.1 x j := by
  show vm_set μ.2.1 q _ x j = _
  rw [vm_set_ne h]
theorem cp_in {μ : vm_M} {o q n j : Nat} (h : j < n) : (vm_cp μ o q n).2.1 q j = μ.2.1 o j := by
  show vm_set μ.2.1 q _ q j = _
  rw [vm_set_eq, if_pos h]
theorem vt_C.keep {μ μ' : vm_M} {t lo hi : Nat} {T : vt_T} (h : vt_C μ t T) (f : vf μ μ' lo hi) (hd : t + 5 < lo ∨ hi < t) : vt_C μ' t T := by
  obtain ⟨h1, h2, h3, h4, h5, h6, h7, h8⟩ := h
  obtain ⟨f1, -, f3⟩ := f
  refine ⟨by rw [f1]; exact h1, h2, by rw [f3 _ (by omega)]; exact h3, by rw [f3 _ (by omega)]; exact h4, by rw [f3 _ (by omega)]; exact h5, by rw [f3 _ (by omega)]; exact h6, fun g hg => ?_, fun p hp => ?_⟩
  · rw [f3 _ (by omega), f3 _ (by omega), f3 _ (by omega)]
    exact h7 g hg
  · rw [f3 _ (by omega), f3 _ (by omega)]
    exact h8 p hp
section TNF
variable {μ : vm_M} {t g p : Nat} {T : vt_T}
theorem vs_T.rK (h : vs_T μ.1 t) : vm_gR μ t 4 0 (t + 1) := ⟨_, h.1, rfl⟩
theorem vs_T.rE (h : vs_T μ.1 t) : vm_gR μ t 4 1 (t + 2) := ⟨_, h.1, rfl⟩
theorem vs_T.rA (h : vs_T μ.1 t) : vm_gR μ t 4 2 (t + 3) := ⟨_, h.1, rfl⟩
theorem vs_T.rB (h : vs_T μ.1 t) : vm_gR μ t 4 3 (t + 4) := ⟨_, h.1, rfl⟩
theorem vs_T.rH (h : vs_T μ.1 t) : vm_gR μ t 4 4 (t + 5) := ⟨_, h.1, rfl⟩
theorem vs_T.wG (h : vs_T μ.1 t) : vm_gW μ t 4 5 := ⟨_, h.1, rfl⟩
theorem vs_T.wP (h : vs_T μ.1 t) : vm_gW μ t 4 6 := ⟨_, h.1, rfl⟩
theorem vs_T.wI (h : vs_T μ.1 t) : vm_gW μ t 4 7 := ⟨_, h.1, rfl⟩
theorem vs_T.wO (h : vs_T μ.1 t) : vm_gW μ t 4 8 := ⟨_, h.1, rfl⟩
theorem vs_T.ob (h : vs_T μ.1 t) : vm_ob μ t 4 := ⟨_, h.1⟩
theorem vs_T.sK (h : vs_T μ.1 t) : μ.1 (t + 1) = some (.inr (0, 5)) := h.2.1
theorem vs_T.sE (h : vs_T μ.1 t) : μ.1 (t + 2) = some (.inr (0, 5)) := h.2.2.1
theorem vs_T.sA (h : vs_T μ.1 t) : μ.1 (t + 3) = some (.inr (0, 5)) := h.2.2.2.1
theorem vs_T.sB (h : vs_T μ.1 t) : μ.1 (t + 4) = some (.inr (0, 6)) := h.2.2.2.2.1
theorem vs_T.sH (h : vs_T μ.1 t) : μ.1 (t + 5) = some (.inr (0, 6)) := h.2.2.2.2.2
theorem vt_C.s (h : vt_C μ t T) : vs_T μ.1 t := h.1
theorem vt_C.gG (h : vt_C μ t T) : vm_gI μ t 4 5 (nI (tG T)) := ⟨_, h.1.1, rfl, h.2.2.1⟩
theorem vt_C.gP (h : vt_C μ t T) : vm_gI μ t 4 6 (nI (tP T)) := ⟨_, h.1.1, rfl, h.2.2.2.1⟩
theorem vt_C.gI (h : vt_C μ t T) : vm_gI μ t 4 7 (tI T) := ⟨_, h.1.1, rfl, h.2.2.2.2.1⟩
theorem vt_C.gO (h : vt_C μ t T) : vm_gI μ t 4 8 (tO T) := ⟨_, h.1.1, rfl, h.2.2.2.2.2.1⟩
theorem vt_C.vK (h : vt_C μ t T) (hg : g < tG T) : μ.2.1 (t + 1) g = nI (tK T g) := (h.2.2.2.2.2.2.1 g hg).1
theorem vt_C.vE (h : vt_C μ t T) (hg : g < tG T) : μ.2.1 (t + 2) g = nI (tE T g) := (h.2.2.2.2.2.2.1 g hg).2.1
theorem vt_C.vA (h : vt_C μ t T) (hg : g < tG T) : μ.2.1 (t + 3) g = nI (tA T g) := (h.2.2.2.2.2.2.1 g hg).2.2
theorem vt_C.vB (h : vt_C μ t T) (hp : p < tP T) : μ.2.1 (t + 4) p = nI (tB T p) := (h.2.2.2.2.2.2.2 p hp).1
theorem vt_C.vH (h : vt_C μ t T) (hp : p < tP T) : μ.2.1 (t + 5) p = tH T p := (h.2.2.2.2.2.2.2 p hp).2
theorem vt_ok.G5 (h : vt_ok T) : tG T ≤ 5 := h.1
theorem vt_ok.P6 (h : vt_ok T) : tP T ≤ 6 := h.2.1
theorem vt_ok.K4 (h : vt_ok T) (hg : g < tG T) : tK T g < 4 := (h.2.2.1 g hg).1
theorem vt_ok.E40 (h : vt_ok T) (hg : g < tG T) : tE T g ≤ 40 := (h.2.2.1 g hg).2.1
theorem vt_ok.A (h : vt_ok T) (hg : g < tG T) : vok (tA T g) := (h.2.2.1 g hg).2.2
theorem vt_ok.B (h : vt_ok T) (hp : p < tP T) : vok (tB T p) := h.2.2.2 p hp
theorem vt_C.ok (h : vt_C μ t T) : vt_ok T := h.2.1
end TNF
/-- how often a gate of a kind counts a place -/
def vwt (kd k : Nat) : Nat := if kd = 3 ∨ (kd = 2 ∧ k = 4) then 2 else if kd = 1 ∧ k = 0 then 0 else 1
theorem vwt_le (kd k : Nat) : vwt kd k ≤ 2 := by
  unfold vwt
  split
  · omega
  · split <;> omega
/-- how far a saying is from another one, by a gate's kind: at one place; at the first n ones -/
def vda (kd s c k : Nat) : Nat := vwt kd k * vab (vd s k) (vd c k)
def vdn (kd s c n : Nat) : Nat := fb_sm (vda kd s c) n
theorem vda_le (kd : Nat) {s c k : Nat} (h1 : vd s k < 6) (h2 : vd c k < 6) : vda kd s c k ≤ 10 := by
  have := Nat.mul_le_mul (vwt_le kd k) (Nat.le_of_lt_succ (vab_lt h1 h2))
  exact this
theorem vdn_le (kd : Nat) {s c : Nat} (hs : vok s) (hc : vok c) : ∀ n, n ≤ 5 → vdn kd s c n ≤ n * 10
  | 0, _ => Nat.zero_le _
  | n + 1, h => by
    have := vdn_le kd hs hc n (by omega)
    have := vda_le kd (hs.2 n (by omega)) (hc.2 n (by omega))
    unfold vdn at *
    rw [fb_sm_succ]
    omega
/-- whether a gate lets a saying in -/
abbrev vadm (T : vt_T) (s g : Nat) : Prop := vdn (tK T g) s (tA T g) 5 ≤ tE T g
/-- settled among the first n; a sound at a place from the first n gates together -/
def vst (T : vt_T) (n : Nat) : Nat := fb_ct (fun p => decide (¬ tH T p = -4)) n
def vft (T : vt_T) (k x n : Nat) : Nat := fb_sm (fun g => vwt (tK T g) k * vab x (vd (tA T g) k)) n
/-- the sound least far at a place, among the first n + 1 -/
def vmd (T : vt_T) (k : Nat) : Nat → Nat
  | 0 => 0
  | n + 1 => if vft T k (n + 1) (tG T) < vft T k (vmd T k n) (tG T) then n + 1 else vmd T k n
theorem vmd_s (T : vt_T) (k n : Nat) : vmd T k (n + 1) = if vft T k (n + 1) (tG T) < vft T k (vmd T k n) (tG T) then n + 1 else vmd T k n := rfl
theorem vmd_le (T : vt_T) (k : Nat) : ∀ n, vmd T k n ≤ n
  | 0 => Nat.le_refl _
  | n + 1 => by
    rw [vmd_s]
    split
    · exact Nat.le_refl _
    · exact Nat.le_trans (vmd_le T k n) (by omega)
theorem vft_le {T : vt_T} (hT : vt_ok T) {k x : Nat} (hk : k < 5) (hx : x < 6) : ∀ n, n ≤ tG T → vft T k x n ≤ n * 10
  | 0, _ => Nat.zero_le _
  | n + 1, h => by
    have := vft_le hT hk hx n (by omega)
    have h2 := (hT.A (g := n) (by omega)).2 k hk
    have h3 : vwt (tK T n) k * vab x (vd (tA T n) k) ≤ 10 := Nat.mul_le_mul (vwt_le _ k) (Nat.le_of_lt_succ (vab_lt hx h2))
    unfold vft at *
    rw [fb_sm_succ]
    omega
theorem vst_le (T : vt_T) (n : Nat) : vst T n ≤ n := fb_ct_le _ n
/-- the bits of some places -/
def vbm (m : Nat) : Nat → Nat
  | 0 => 0
  | n + 1 => if m / 2 ^ n % 2 = 1 then vbm m n ||| 7 * 2 ^ (3 * n) else vbm m n
theorem vbm_s (m n : Nat) : vbm m (n + 1) = if m / 2 ^ n % 2 = 1 then vbm m n ||| 7 * 2 ^ (3 * n) else vbm m n := rfl
/-- whether the sounds at some places tell two gates apart -/
def vpt (T : vt_T) (m g h : Nat) : Prop := ¬ (tA T g &&& vbm m 5 = tA T h &&& vbm m 5)
def vbc (n : Nat) : Nat := fb_ct (fun k => decide (n / 2 ^ k % 2 = 1)) 5
/-- an int that counts among the first n -/
theorem v_ix (x : Int32) {n : Nat} (hn : n < 2 ^ 31) : (∃ j, j < n ∧ x = nI j) ∨ ¬ (0 ≤ x ∧ x < nI n) := by
  rcases pk_ix x hn with h | h | ⟨j, h1, h2⟩
  · exact Or.inr fun z => absurd z.1 (Int32.not_le.mpr h)
  · exact Or.inr fun z => absurd z.2 (Int32.not_lt.mpr h)
  · exact Or.inl ⟨j, h1, h2⟩
theorem v_ixt {j n : Nat} (h : j < n) (hn : n < 2 ^ 31) : 0 ≤ nI j ∧ nI j < nI n := ⟨nI_pos' (by omega), nI_lt h hn⟩
section TOWN
variable {E : vm_V} {μ : vm_M} {t g p : Nat} {T : vt_T}
theorem c_G_within (x lo hi : Int32) : vm_Ex E 1 n_G_within [.int x, .int lo, .int hi] 0 0 μ (vm_PI (vm_bi (lo ≤ x ∧ x ≤ hi)) μ) := by
  refine vm_start (D := 0) (by decide) rfl (Nat.le_of_ble_eq_true rfl) (k := k_G_within) rfl (L := [.int x, .int lo, .int hi]) rfl ?_
  refine vm_r_iload_n rfl rfl rfl ?_
  refine vm_r_iload_n rfl rfl rfl ?_
  refine vm_r_icmp_lt rfl (fun e => ?_) (fun e => ?_)
  · refine vm_r_iconst (kI := nI 0) rfl ?_
    exact vm_r_ret rfl (fun _ => by first | exact vm_bi_01 _ | decide) (vm_PI.of (vm_bi_f (fun z => absurd z.1 (Int32.not_le.mpr e))))
  · refine vm_r_iload_n rfl rfl rfl ?_
    refine vm_r_iload_n rfl rfl rfl ?_
    refine vm_r_icmp_gt rfl (fun f => ?_) (fun f => ?_)
    · refine vm_r_iconst (kI := nI 0) rfl ?_
      exact vm_r_ret rfl (fun _ => by first | exact vm_bi_01 _ | decide) (vm_PI.of (vm_bi_f (fun z => absurd z.2 (Int32.not_le.mpr f))))
    · refine vm_r_iconst (kI := nI 1) rfl ?_
      refine vm_r_goto rfl ?_
      exact vm_r_ret rfl (fun _ => by first | exact vm_bi_01 _ | decide) (vm_PI.of (vm_bi_t ⟨Int32.not_lt.mp e, Int32.not_lt.mp f⟩))
theorem c_TN_isGate (h : vt_C μ t T) (x : Int32) : vm_Ex E 1 n_TN_isGate [.ref t, .int x] 0 0 μ (vm_PI (vm_bi (0 ≤ x ∧ x < nI (tG T))) μ) := by
  refine vm_start (D := 0) (by decide) rfl (Nat.le_of_ble_eq_true rfl) (k := k_TN_isGate) rfl (L := [.ref t, .int x]) rfl ?_
  refine vm_r_iload_n rfl rfl rfl ?_
  refine vm_r_if_lt rfl (fun e => ?_) (fun e => ?_)
  · refine vm_r_iconst (kI := nI 0) rfl ?_
    exact vm_r_ret rfl (fun _ => by first | exact vm_bi_01 _ | decide) (vm_PI.of (vm_bi_f (fun z => absurd z.1 (Int32.not_le.mpr e))))
  · refine vm_r_iload_n rfl rfl rfl ?_
    refine vm_r_aload_n rfl rfl rfl ?_
    refine vm_r_getI rfl (h.gG) ?_
    refine vm_r_icmp_ge rfl (fun f => ?_) (fun f => ?_)
    · refine vm_r_iconst (kI := nI 0) rfl ?_
      exact vm_r_ret rfl (fun _ => by first | exact vm_bi_01 _ | decide) (vm_PI.of (vm_bi_f (fun z => absurd z.2 (Int32.not_lt.mpr f))))
    · refine vm_r_iconst (kI := nI 1) rfl ?_
      refine vm_r_goto rfl ?_
      exact vm_r_ret rfl (fun _ => by first | exact vm_bi_01 _ | decide) (vm_PI.of (vm_bi_t ⟨Int32.not_lt.mp e, Int32.not_le.mp f⟩))
theorem c_TN_isPerson (h : vt_C μ t T) (x : Int32) : vm_Ex E 1 n_TN_isPerson [.ref t, .int x] 0 0 μ (vm_PI (vm_bi (0 ≤ x ∧ x < nI (tP T))) μ) := by
  refine vm_start (D := 0) (by decide) rfl (Nat.le_of_ble_eq_true rfl) (k := k_TN_isPerson) rfl (L := [.ref t, .int x]) rfl ?_
  refine vm_r_iload_n rfl rfl rfl ?_
  refine vm_r_if_lt rfl (fun e => ?_) (fun e => ?_)
  · refine vm_r_iconst (kI := nI 0) rfl ?_
    exact vm_r_ret rfl (fun _ => by first | exact vm_bi_01 _ | decide) (vm_PI.of (vm_bi_f (fun z => absurd z.1 (Int32.not_le.mpr e))))
  · refine vm_r_iload_n rfl rfl rfl ?_
    refine vm_r_aload_n rfl rfl rfl ?_
    refine vm_r_getI rfl (h.gP) ?_
    refine vm_r_icmp_ge rfl (fun f => ?_) (fun f => ?_)
    · refine vm_r_iconst (kI := nI 0) rfl ?_
      exact vm_r_ret rfl (fun _ => by first | exact vm_bi_01 _ | decide) (vm_PI.of (vm_bi_f (fun z => absurd z.2 (Int32.not_lt.mpr f))))
    · refine vm_r_iconst (kI := nI 1) rfl ?_
      refine vm_r_goto rfl ?_
      exact vm_r_ret rfl (fun _ => by first | exact vm_bi_01 _ | decide) (vm_PI.of (vm_bi_t ⟨Int32.not_lt.mp e, Int32.not_le.mp f⟩))
theorem c_TN_weight {kd k : Nat} (hd : kd < 4) (hk : k < 5) : vm_Ex E 1 n_TN_weight [.int (nI kd), .int (nI k)] 0 0 μ (vm_PI (nI (vwt kd k)) μ) := by
  refine vm_start (D := 0) (by decide) rfl (Nat.le_of_ble_eq_true rfl) (k := k_TN_weight) rfl (L := [.int (nI kd), .int (nI k)]) rfl ?_
  refine vm_r_iload_n rfl rfl rfl ?_
  refine vm_r_iconst (kI := nI 3) rfl ?_
  first | refine vm_r_icmp_eqN rfl (by omega) (by omega) (fun e => ?_) (fun e => ?_) | refine vm_r_icmp_eq rfl (fun e => ?_) (fun e => ?_)
  · refine vm_r_iconst (kI := nI 2) rfl ?_
    exact vm_r_ret rfl (fun h => by cases h) (vm_PI.of (by unfold vwt; rw [if_pos (Or.inl e)]))
  · refine vm_r_iload_n rfl rfl rfl ?_
    refine vm_r_iconst (kI := nI 2) rfl ?_
    first | refine vm_r_icmp_neN rfl (by omega) (by omega) (fun f => ?_) (fun f => ?_) | refine vm_r_icmp_ne rfl (fun f => ?_) (fun f => ?_)
    · refine vm_r_iload_n rfl rfl rfl ?_
      refine vm_r_iconst (kI := nI 1) rfl ?_
      first | refine vm_r_icmp_neN rfl (by omega) (by omega) (fun e2 => ?_) (fun e2 => ?_) | refine vm_r_icmp_ne rfl (fun e2 => ?_) (fun e2 => ?_)
      · refine vm_r_iconst (kI := nI 1) rfl ?_
        exact vm_r_ret rfl (fun h => by cases h) (vm_PI.of (by unfold vwt; rw [if_neg (by omega), if_neg (by omega)]))
      · refine vm_r_iload_n rfl rfl rfl ?_
        first | refine vm_r_if_neB rfl (fun e3 => ?_) (fun e3 => ?_) | refine vm_r_if_neN rfl (by omega) (fun e3 => ?_) (fun e3 => ?_) | refine vm_r_if_ne rfl (fun e3 => ?_) (fun e3 => ?_)
        · refine vm_r_iconst (kI := nI 1) rfl ?_
          exact vm_r_ret rfl (fun h => by cases h) (vm_PI.of (by unfold vwt; rw [if_neg (by omega), if_neg (by omega)]))
        · refine vm_r_iconst (kI := nI 0) rfl ?_
          refine vm_r_goto rfl ?_
          exact vm_r_ret rfl (fun h => by cases h) (vm_PI.of (by unfold vwt; rw [if_neg (by omega), if_pos (by omega)]))
    · refine vm_r_iload_n rfl rfl rfl ?_
      refine vm_r_iconst (kI := nI 4) rfl ?_
      first | refine vm_r_icmp_neN rfl (by omega) (by omega) (fun e2 => ?_) (fun e2 => ?_) | refine vm_r_icmp_ne rfl (fun e2 => ?_) (fun e2 => ?_)
      · refine vm_r_iload_n rfl rfl rfl ?_
        refine vm_r_iconst (kI := nI 1) rfl ?_
        first | refine vm_r_icmp_neN rfl (by omega) (by omega) (fun _ => ?_) (fun hn => absurd hn (by omega)) | refine vm_r_icmp_ne rfl (fun _ => ?_) (fun hn => absurd hn (by omega))
        refine vm_r_iconst (kI := nI 1) rfl ?_
        exact vm_r_ret rfl (fun h => by cases h) (vm_PI.of (by unfold vwt; rw [if_neg (by omega), if_neg (by omega)]))
      · refine vm_r_iconst (kI := nI 2) rfl ?_
        exact vm_r_ret rfl (fun h => by cases h) (vm_PI.of (by unfold vwt; rw [if_pos (by omega)]))
theorem c_TN_distanceAt {k x kd : Nat} (h : vt_C μ t T) (hk : k < 5) (hx : x < 6) (hg : g < tG T) (hd : kd < 4) : vm_Ex E 2 n_TN_distanceAt [.ref t, .int (nI k), .int (nI x), .int (nI g), .int (nI kd)] 0 0 μ (vm_PI (nI (vwt kd k * vab x (vd (tA T g) k))) μ) := by
  have hA := h.ok.A hg
  have hG := h.ok.G5
  have hAl := hA.1
  have hd2 := vd_lt (tA T g) k
  refine vm_start (D := 1) (by decide) rfl (Nat.le_of_ble_eq_true rfl) (k := k_TN_distanceAt) rfl (L := [.ref t, .int (nI k), .int (nI x), .int (nI g), .int (nI kd)]) rfl ?_
  refine vm_r_iload rfl rfl ?_
  refine vm_r_iload_n rfl rfl rfl ?_
  refine vm_r_cs2I rfl (by decide) (Nat.le_of_ble_eq_true rfl) (vm_Ex_le (Nat.le_of_ble_eq_true rfl) (c_TN_weight hd hk)) ?_
  refine vm_r_iload_n rfl rfl rfl ?_
  refine vm_r_aload_n rfl rfl rfl ?_
  refine vm_r_getR rfl (h.s.rA) ?_
  refine vm_r_iload_n rfl rfl rfl ?_
  refine vm_r_iaload rfl (h.s.sA) (by omega) (by omega) (h.vA hg) ?_
  refine vm_r_iload_n rfl rfl rfl ?_
  refine vm_r_cs2I rfl (by decide) (Nat.le_of_ble_eq_true rfl) (vm_Ex_le (Nat.le_of_ble_eq_true rfl) (c_SY_soundAt (by omega) (by omega))) ?_
  refine vm_r_isub rfl ?_
  refine vm_r_abs rfl (Nat.le_of_ble_eq_true rfl) ?_
  refine vm_r_top ((v_gap (by omega) (by omega))) ?_
  first | refine vm_r_imulN rfl ?_ | refine vm_r_imul rfl ?_
  exact vm_r_ret rfl (fun h => by cases h) (vm_PI.of rfl)
theorem c_TN_distance {s kd : Nat} (h : vt_C μ t T) (hs : vok s) (hg : g < tG T) (hd : kd < 4) : vm_Ex E 3 n_TN_distance [.ref t, .int (nI s), .int (nI g), .int (nI kd)] 0 0 μ (vm_PI (nI (vdn kd s (tA T g) 5)) μ) := by
  have hsl := hs.1
  refine vm_start (D := 2) (by decide) rfl (Nat.le_of_ble_eq_true rfl) (k := k_TN_distance) rfl (L := [.ref t, .int (nI s), .int (nI g), .int (nI kd), .retAddr 0, .retAddr 0]) rfl ?_
  refine vm_r_iconst (kI := nI 0) rfl ?_
  refine vm_r_istore4 rfl rfl ?_
  refine vm_r_iconst (kI := nI 0) rfl ?_
  refine vm_r_istore5 rfl rfl ?_
  refine vm_up (P := fun i => vm_W E (vm_Ex E 2) k_TN_distance _ (6, [.ref t, .int (nI s), .int (nI g), .int (nI kd), .int (nI (vdn kd s (tA T g) i)), .int (nI i)], [], 0, 0, μ)) (N := 5) ?_ ?_ 0 (by decide)
  · refine vm_r_iload rfl rfl ?_
    refine vm_r_iconst (kI := nI 5) rfl ?_
    first | refine vm_r_icmp_geN rfl (by omega) (by omega) (fun _ => ?_) (fun hn => absurd hn (by omega)) | refine vm_r_icmp_ge rfl (fun _ => ?_) (fun hn => absurd hn (by omega))
    refine vm_r_iload rfl rfl ?_
    exact vm_r_ret rfl (fun h => by cases h) (vm_PI.of rfl)
  · intro i hi ih
    refine vm_r_iload rfl rfl ?_
    refine vm_r_iconst (kI := nI 5) rfl ?_
    first | refine vm_r_icmp_geN rfl (by omega) (by omega) (fun hn => absurd hn (by omega)) (fun _ => ?_) | refine vm_r_icmp_ge rfl (fun hn => absurd hn (by omega)) (fun _ => ?_)
    refine vm_r_iload rfl rfl ?_
    refine vm_r_aload_n rfl rfl rfl ?_
    refine vm_r_iload rfl rfl ?_
    refine vm_r_iload_n rfl rfl rfl ?_
    refine vm_r_iload rfl rfl ?_
    refine vm_r_cs2I rfl (by decide) (Nat.le_of_ble_eq_true rfl) (vm_Ex_le (Nat.le_of_ble_eq_true rfl) (c_SY_soundAt (by omega) (by omega))) ?_
    refine vm_r_iload_n rfl rfl rfl ?_
    refine vm_r_iload_n rfl rfl rfl ?_
    refine vm_r_cv5I rfl (by decide) (h.s.ob) (Nat.le_of_ble_eq_true rfl) (vm_Ex_le (Nat.le_of_ble_eq_true rfl) (c_TN_distanceAt h hi (hs.2 i hi) hg hd)) ?_
    first | refine vm_r_iaddN rfl ?_ | refine vm_r_iadd rfl ?_
    refine vm_r_istore4 rfl rfl ?_
    first | refine vm_r_iinc5N (y := 1) rfl rfl ?_ | refine vm_r_iinc5 rfl rfl ?_
    refine vm_r_goto rfl ?_
    exact ih
theorem c_TN_admits {s : Nat} (h : vt_C μ t T) (hs : vok s) (hg : g < tG T) : vm_Ex E 4 n_TN_admits [.ref t, .int (nI s), .int (nI g)] 0 0 μ (vm_PI (vm_bi (vadm T s g)) μ) := by
  have hK := h.ok.K4 hg
  have hE := h.ok.E40 hg
  have hG := h.ok.G5
  have hb := vdn_le (tK T g) hs (h.ok.A hg) 5 (Nat.le_refl _)
  refine vm_start (D := 3) (by decide) rfl (Nat.le_of_ble_eq_true rfl) (k := k_TN_admits) rfl (L := [.ref t, .int (nI s), .int (nI g)]) rfl ?_
  refine vm_r_aload_n rfl rfl rfl ?_
  refine vm_r_iload_n rfl rfl rfl ?_
  refine vm_r_iload_n rfl rfl rfl ?_
  refine vm_r_aload_n rfl rfl rfl ?_
  refine vm_r_getR rfl (h.s.rK) ?_
  refine vm_r_iload_n rfl rfl rfl ?_
  refine vm_r_iaload rfl (h.s.sK) (by omega) (by omega) (h.vK hg) ?_
  refine vm_r_cv4I rfl (by decide) (h.s.ob) (Nat.le_of_ble_eq_true rfl) (vm_Ex_le (Nat.le_of_ble_eq_true rfl) (c_TN_distance h hs hg hK)) ?_
  refine vm_r_aload_n rfl rfl rfl ?_
  refine vm_r_getR rfl (h.s.rE) ?_
  refine vm_r_iload_n rfl rfl rfl ?_
  refine vm_r_iaload rfl (h.s.sE) (by omega) (by omega) (h.vE hg) ?_
  first | refine vm_r_icmp_gtN rfl (by omega) (by omega) (fun e => ?_) (fun e => ?_) | refine vm_r_icmp_gt rfl (fun e => ?_) (fun e => ?_)
  · refine vm_r_iconst (kI := nI 0) rfl ?_
    exact vm_r_ret rfl (fun _ => by first | exact vm_bi_01 _ | decide) (vm_PI.of (vm_bi_f (by unfold vadm; omega)))
  · refine vm_r_iconst (kI := nI 1) rfl ?_
    refine vm_r_goto rfl ?_
    exact vm_r_ret rfl (fun _ => by first | exact vm_bi_01 _ | decide) (vm_PI.of (vm_bi_t e))
theorem c_TN_settled (h : vt_C μ t T) : vm_Ex E 1 n_TN_settled [.ref t] 0 0 μ (vm_PI (nI (vst T (tP T))) μ) := by
  have hP := h.ok.P6
  refine vm_start (D := 0) (by decide) rfl (Nat.le_of_ble_eq_true rfl) (k := k_TN_settled) rfl (L := [.ref t, .retAddr 0, .retAddr 0]) rfl ?_
  refine vm_r_iconst (kI := nI 0) rfl ?_
  refine vm_r_istore_n1 rfl rfl rfl ?_
  refine vm_r_iconst (kI := nI 0) rfl ?_
  refine vm_r_istore_n2 rfl rfl rfl ?_
  refine vm_up (P := fun i => vm_W E (vm_Ex E 0) k_TN_settled _ (4, [.ref t, .int (nI (vst T i)), .int (nI i)], [], 0, 0, μ)) (N := tP T) ?_ ?_ 0 (by omega)
  · refine vm_r_iload_n rfl rfl rfl ?_
    refine vm_r_aload_n rfl rfl rfl ?_
    refine vm_r_getI rfl (h.gP) ?_
    first | refine vm_r_icmp_geN rfl (by omega) (by omega) (fun _ => ?_) (fun hn => absurd hn (by omega)) | refine vm_r_icmp_ge rfl (fun _ => ?_) (fun hn => absurd hn (by omega))
    refine vm_r_iload_n rfl rfl rfl ?_
    exact vm_r_ret rfl (fun h => by cases h) (vm_PI.of rfl)
  · intro i hi ih
    have e1 : vst T (i + 1) = vst T i + if decide (¬ tH T i = -4) = true then 1 else 0 := rfl
    refine vm_r_iload_n rfl rfl rfl ?_
    refine vm_r_aload_n rfl rfl rfl ?_
    refine vm_r_getI rfl (h.gP) ?_
    first | refine vm_r_icmp_geN rfl (by omega) (by omega) (fun hn => absurd hn (by omega)) (fun _ => ?_) | refine vm_r_icmp_ge rfl (fun hn => absurd hn (by omega)) (fun _ => ?_)
    refine vm_r_aload_n rfl rfl rfl ?_
    refine vm_r_getR rfl (h.s.rH) ?_
    refine vm_r_iload_n rfl rfl rfl ?_
    refine vm_r_iaload rfl (h.s.sH) (by omega) (by omega) (h.vH hi) ?_
    refine vm_r_bipush rfl ?_
    refine vm_r_icmp_eq rfl (fun e => ?_) (fun e => ?_)
    · rw [e1, if_neg (by simp [e])] at ih
      first | refine vm_r_iinc2N (y := 1) rfl rfl ?_ | refine vm_r_iinc2 rfl rfl ?_
      refine vm_r_goto rfl ?_
      exact ih
    · rw [e1, if_pos (by simp [e])] at ih
      first | refine vm_r_iinc1N (y := 1) rfl rfl ?_ | refine vm_r_iinc1 rfl rfl ?_
      first | refine vm_r_iinc2N (y := 1) rfl rfl ?_ | refine vm_r_iinc2 rfl rfl ?_
      refine vm_r_goto rfl ?_
      exact ih
theorem c_TN_farTogether {k x : Nat} (h : vt_C μ t T) (hk : k < 5) (hx : x < 6) : vm_Ex E 3 n_TN_farTogether [.ref t, .int (nI k), .int (nI x)] 0 0 μ (vm_PI (nI (vft T k x (tG T))) μ) := by
  have hG := h.ok.G5
  refine vm_start (D := 2) (by decide) rfl (Nat.le_of_ble_eq_true rfl) (k := k_TN_farTogether) rfl (L := [.ref t, .int (nI k), .int (nI x), .retAddr 0, .retAddr 0]) rfl ?_
  refine vm_r_iconst (kI := nI 0) rfl ?_
  refine vm_r_istore_n3 rfl rfl rfl ?_
  refine vm_r_iconst (kI := nI 0) rfl ?_
  refine vm_r_istore4 rfl rfl ?_
  refine vm_up (P := fun i => vm_W E (vm_Ex E 2) k_TN_farTogether _ (5, [.ref t, .int (nI k), .int (nI x), .int (nI (vft T k x i)), .int (nI i)], [], 0, 0, μ)) (N := tG T) ?_ ?_ 0 (by omega)
  · refine vm_r_iload rfl rfl ?_
    refine vm_r_aload_n rfl rfl rfl ?_
    refine vm_r_getI rfl (h.gG) ?_
    first | refine vm_r_icmp_geN rfl (by omega) (by omega) (fun _ => ?_) (fun hn => absurd hn (by omega)) | refine vm_r_icmp_ge rfl (fun _ => ?_) (fun hn => absurd hn (by omega))
    refine vm_r_iload_n rfl rfl rfl ?_
    exact vm_r_ret rfl (fun h => by cases h) (vm_PI.of rfl)
  · intro i hi ih
    refine vm_r_iload rfl rfl ?_
    refine vm_r_aload_n rfl rfl rfl ?_
    refine vm_r_getI rfl (h.gG) ?_
    first | refine vm_r_icmp_geN rfl (by omega) (by omega) (fun hn => absurd hn (by omega)) (fun _ => ?_) | refine vm_r_icmp_ge rfl (fun hn => absurd hn (by omega)) (fun _ => ?_)
    refine vm_r_iload_n rfl rfl rfl ?_
    refine vm_r_aload_n rfl rfl rfl ?_
    refine vm_r_iload_n rfl rfl rfl ?_
    refine vm_r_iload_n rfl rfl rfl ?_
    refine vm_r_iload rfl rfl ?_
    refine vm_r_aload_n rfl rfl rfl ?_
    refine vm_r_getR rfl (h.s.rK) ?_
    refine vm_r_iload rfl rfl ?_
    refine vm_r_iaload rfl (h.s.sK) (by omega) (by omega) (h.vK hi) ?_
    refine vm_r_cv5I rfl (by decide) (h.s.ob) (Nat.le_of_ble_eq_true rfl) (vm_Ex_le (Nat.le_of_ble_eq_true rfl) (c_TN_distanceAt h hk hx hi (h.ok.K4 hi))) ?_
    first | refine vm_r_iaddN rfl ?_ | refine vm_r_iadd rfl ?_
    refine vm_r_istore_n3 rfl rfl rfl ?_
    first | refine vm_r_iinc4N (y := 1) rfl rfl ?_ | refine vm_r_iinc4 rfl rfl ?_
    refine vm_r_goto rfl ?_
    exact ih
theorem c_TN_middleSound {k : Nat} (h : vt_C μ t T) (hk : k < 5) : vm_Ex E 4 n_TN_middleSound [.ref t, .int (nI k)] 0 0 μ (vm_PI (nI (vmd T k 5)) μ) := by
  have hG := h.ok.G5
  refine vm_start (D := 3) (by decide) rfl (Nat.le_of_ble_eq_true rfl) (k := k_TN_middleSound) rfl (L := [.ref t, .int (nI k), .retAddr 0, .retAddr 0]) rfl ?_
  refine vm_r_iconst (kI := nI 0) rfl ?_
  refine vm_r_istore_n2 rfl rfl rfl ?_
  refine vm_r_iconst (kI := nI 1) rfl ?_
  refine vm_r_istore_n3 rfl rfl rfl ?_
  refine vm_up (P := fun i => vm_W E (vm_Ex E 3) k_TN_middleSound _ (4, [.ref t, .int (nI k), .int (nI (vmd T k i)), .int (nI (i + 1))], [], 0, 0, μ)) (N := 5) ?_ ?_ 0 (by decide)
  · refine vm_r_iload_n rfl rfl rfl ?_
    refine vm_r_bipush (kI := nI 6) rfl ?_
    first | refine vm_r_icmp_geN rfl (by omega) (by omega) (fun _ => ?_) (fun hn => absurd hn (by omega)) | refine vm_r_icmp_ge rfl (fun _ => ?_) (fun hn => absurd hn (by omega))
    refine vm_r_iload_n rfl rfl rfl ?_
    exact vm_r_ret rfl (fun h => by cases h) (vm_PI.of rfl)
  · intro i hi ih
    have hm := vmd_le T k i
    have b1 := vft_le h.ok hk (x := i + 1) (by omega) (tG T) (Nat.le_refl _)
    have b2 := vft_le h.ok hk (x := vmd T k i) (by omega) (tG T) (Nat.le_refl _)
    rw [vmd_s T k i] at ih
    refine vm_r_iload_n rfl rfl rfl ?_
    refine vm_r_bipush (kI := nI 6) rfl ?_
    first | refine vm_r_icmp_geN rfl (by omega) (by omega) (fun hn => absurd hn (by omega)) (fun _ => ?_) | refine vm_r_icmp_ge rfl (fun hn => absurd hn (by omega)) (fun _ => ?_)
    refine vm_r_aload_n rfl rfl rfl ?_
    refine vm_r_iload_n rfl rfl rfl ?_
    refine vm_r_iload_n rfl rfl rfl ?_
    refine vm_r_cv3I rfl (by decide) (h.s.ob) (Nat.le_of_ble_eq_true rfl) (vm_Ex_le (Nat.le_of_ble_eq_true rfl) (c_TN_farTogether h hk (by omega))) ?_
    refine vm_r_aload_n rfl rfl rfl ?_
    refine vm_r_iload_n rfl rfl rfl ?_
    refine vm_r_iload_n rfl rfl rfl ?_
    refine vm_r_cv3I rfl (by decide) (h.s.ob) (Nat.le_of_ble_eq_true rfl) (vm_Ex_le (Nat.le_of_ble_eq_true rfl) (c_TN_farTogether h hk (by omega))) ?_
    first | refine vm_r_icmp_geN rfl (by omega) (by omega) (fun e => ?_) (fun e => ?_) | refine vm_r_icmp_ge rfl (fun e => ?_) (fun e => ?_)
    · rw [if_neg (by omega)] at ih
      first | refine vm_r_iinc3N (y := 1) rfl rfl ?_ | refine vm_r_iinc3 rfl rfl ?_
      refine vm_r_goto rfl ?_
      exact ih
    · rw [if_pos e] at ih
      refine vm_r_iload_n rfl rfl rfl ?_
      refine vm_r_istore_n2 rfl rfl rfl ?_
      first | refine vm_r_iinc3N (y := 1) rfl rfl ?_ | refine vm_r_iinc3 rfl rfl ?_
      refine vm_r_goto rfl ?_
      exact ih
theorem c_TN_differsEverywhere {m : Nat} (h : vt_C μ t T) (hm : m < 32) : vm_Ex E 1 n_TN_differsEverywhere [.ref t, .int (nI m)] 0 0 μ (vm_PX (fun z μ' => μ' = μ ∧ (z = 1 ∨ z = 0) ∧ (z = 1 ↔ ∀ g, g < tG T → ∀ q, q < g → vpt T m g q)) ) := by
  have hG := h.ok.G5
  refine vm_start (D := 0) (by decide) rfl (Nat.le_of_ble_eq_true rfl) (k := k_TN_differsEverywhere) rfl (L := [.ref t, .int (nI m), .retAddr 0, .retAddr 0, .retAddr 0]) rfl ?_
  refine vm_r_iconst (kI := nI 0) rfl ?_
  refine vm_r_istore_n2 rfl rfl rfl ?_
  refine vm_r_iconst (kI := nI 0) rfl ?_
  refine vm_r_istore_n3 rfl rfl rfl ?_
  refine vm_up (P := fun i => vm_W E (vm_Ex E 0) k_TN_differsEverywhere _ (4, [.ref t, .int (nI m), .int (nI (vbm m i)), .int (nI i), .retAddr 0], [], 0, 0, μ)) (N := 5) ?_ ?_ 0 (by decide)
  · refine vm_r_iload_n rfl rfl rfl ?_
    refine vm_r_iconst (kI := nI 5) rfl ?_
    first | refine vm_r_icmp_geN rfl (by omega) (by omega) (fun _ => ?_) (fun hn => absurd hn (by omega)) | refine vm_r_icmp_ge rfl (fun _ => ?_) (fun hn => absurd hn (by omega))
    refine vm_r_iconst (kI := nI 0) rfl ?_
    refine vm_r_istore_n3 rfl rfl rfl ?_
    refine vm_up (P := fun i => ∀ v : Value, vm_nlv v = true → (∀ g, g < i → ∀ q, q < g → vpt T m g q) → vm_W E (vm_Ex E 0) k_TN_differsEverywhere _ (35, [.ref t, .int (nI m), .int (nI (vbm m 5)), .int (nI i), v], [], 0, 0, μ)) (N := tG T) ?_ ?_ 0 (by omega) (.retAddr 0) rfl (fun g hg => by omega)
    · intro v hv ha
      refine vm_r_iload_n rfl rfl rfl ?_
      refine vm_r_aload_n rfl rfl rfl ?_
      refine vm_r_getI rfl (h.gG) ?_
      first | refine vm_r_icmp_geN rfl (by omega) (by omega) (fun _ => ?_) (fun hn => absurd hn (by omega)) | refine vm_r_icmp_ge rfl (fun _ => ?_) (fun hn => absurd hn (by omega))
      refine vm_r_iconst (kI := nI 1) rfl ?_
      exact vm_r_ret rfl (fun _ => by first | exact vm_bi_01 _ | decide) (⟨_, rfl, rfl, Or.inl rfl, fun _ => ha, fun _ => rfl⟩)
    · intro i hi ih v hv ha
      have hA := (h.ok.A hi).1
      refine vm_r_iload_n rfl rfl rfl ?_
      refine vm_r_aload_n rfl rfl rfl ?_
      refine vm_r_getI rfl (h.gG) ?_
      first | refine vm_r_icmp_geN rfl (by omega) (by omega) (fun hn => absurd hn (by omega)) (fun _ => ?_) | refine vm_r_icmp_ge rfl (fun hn => absurd hn (by omega)) (fun _ => ?_)
      refine vm_r_iconst (kI := nI 0) rfl ?_
      refine vm_r_istore4 rfl rfl ?_
      refine vm_up (P := fun j => (∀ q, q < j → vpt T m i q) → vm_W E (vm_Ex E 0) k_TN_differsEverywhere _ (46, [.ref t, .int (nI m), .int (nI (vbm m 5)), .int (nI i), .int (nI j)], [], 0, 0, μ)) (N := i) ?_ ?_ 0 (by omega) (fun q hq => by omega)
      · intro hq
        refine vm_r_iload rfl rfl ?_
        refine vm_r_iload_n rfl rfl rfl ?_
        first | refine vm_r_icmp_geN rfl (by omega) (by omega) (fun _ => ?_) (fun hn => absurd hn (by omega)) | refine vm_r_icmp_ge rfl (fun _ => ?_) (fun hn => absurd hn (by omega))
        first | refine vm_r_iinc3N (y := 1) rfl rfl ?_ | refine vm_r_iinc3 rfl rfl ?_
        refine vm_r_goto rfl ?_
        refine ih _ rfl (fun g hg => ?_)
        rcases Nat.lt_or_ge g i with z | z
        · exact ha g z
        · obtain rfl : g = i := by omega
          exact hq
      · intro j hj ih2 hq
        have hA2 := (h.ok.A (g := j) (by omega)).1
        have b1 : tA T i &&& vbm m 5 ≤ tA T i := Nat.and_le_left
        have b2 : tA T j &&& vbm m 5 ≤ tA T j := Nat.and_le_left
        refine vm_r_iload rfl rfl ?_
        refine vm_r_iload_n rfl rfl rfl ?_
        first | refine vm_r_icmp_geN rfl (by omega) (by omega) (fun hn => absurd hn (by omega)) (fun _ => ?_) | refine vm_r_icmp_ge rfl (fun hn => absurd hn (by omega)) (fun _ => ?_)
        refine vm_r_aload_n rfl rfl rfl ?_
        refine vm_r_getR rfl (h.s.rA) ?_
        refine vm_r_iload_n rfl rfl rfl ?_
        refine vm_r_iaload rfl (h.s.sA) (by omega) (by omega) (h.vA hi) ?_
        refine vm_r_iload_n rfl rfl rfl ?_
        first | refine vm_r_iandN rfl ?_ | refine vm_r_iand rfl ?_
        refine vm_r_aload_n rfl rfl rfl ?_
        refine vm_r_getR rfl (h.s.rA) ?_
        refine vm_r_iload rfl rfl ?_
        refine vm_r_iaload rfl (h.s.sA) (by omega) (by omega) (h.vA (by omega)) ?_
        refine vm_r_iload_n rfl rfl rfl ?_
        first | refine vm_r_iandN rfl ?_ | refine vm_r_iand rfl ?_
        first | refine vm_r_icmp_neN rfl (by omega) (by omega) (fun e => ?_) (fun e => ?_) | refine vm_r_icmp_ne rfl (fun e => ?_) (fun e => ?_)
        · first | refine vm_r_iinc4N (y := 1) rfl rfl ?_ | refine vm_r_iinc4 rfl rfl ?_
          refine vm_r_goto rfl ?_
          refine ih2 (fun q z => ?_)
          rcases Nat.lt_or_ge q j with y | y
          · exact hq q y
          · obtain rfl : q = j := by omega
            exact e
        · refine vm_r_iconst (kI := nI 0) rfl ?_
          exact vm_r_ret rfl (fun _ => by first | exact vm_bi_01 _ | decide) (⟨_, rfl, rfl, Or.inr rfl, fun z => absurd z (by decide), fun z => absurd e (z i hi j hj)⟩)
  · intro i hi ih
    have h3 := Nat.mod_lt (m / 2 ^ i) (show 0 < 2 by decide)
    have h2 := (v_p8 i hi).2
    rw [vbm_s m i] at ih
    refine vm_r_iload_n rfl rfl rfl ?_
    refine vm_r_iconst (kI := nI 5) rfl ?_
    first | refine vm_r_icmp_geN rfl (by omega) (by omega) (fun hn => absurd hn (by omega)) (fun _ => ?_) | refine vm_r_icmp_ge rfl (fun hn => absurd hn (by omega)) (fun _ => ?_)
    refine vm_r_iload_n rfl rfl rfl ?_
    refine vm_r_iload_n rfl rfl rfl ?_
    refine vm_r_ishrN rfl (by omega) (by omega) ?_
    refine vm_r_iconst (kI := nI 1) rfl ?_
    first | refine vm_r_iandN rfl ?_ | refine vm_r_iand rfl ?_
    refine vm_r_top ((congrArg nI (v_and1 _))) ?_
    refine vm_r_iconst (kI := nI 1) rfl ?_
    first | refine vm_r_icmp_neN rfl (by omega) (by omega) (fun e => ?_) (fun e => ?_) | refine vm_r_icmp_ne rfl (fun e => ?_) (fun e => ?_)
    · rw [if_neg e] at ih
      first | refine vm_r_iinc3N (y := 1) rfl rfl ?_ | refine vm_r_iinc3 rfl rfl ?_
      refine vm_r_goto rfl ?_
      exact ih
    · rw [if_pos e] at ih
      refine vm_r_iload_n rfl rfl rfl ?_
      refine vm_r_bipush (kI := nI 7) rfl ?_
      refine vm_r_iconst (kI := nI 3) rfl ?_
      refine vm_r_iload_n rfl rfl rfl ?_
      first | refine vm_r_imulN rfl ?_ | refine vm_r_imul rfl ?_
      refine vm_r_ishlN rfl (by omega) (by omega) ?_
      first | refine vm_r_iorN rfl ?_ | refine vm_r_ior rfl ?_
      refine vm_r_istore_n2 rfl rfl rfl ?_
      first | refine vm_r_iinc3N (y := 1) rfl rfl ?_ | refine vm_r_iinc3 rfl rfl ?_
      refine vm_r_goto rfl ?_
      exact ih
theorem c_J_bitCount {n : Nat} (hn : n < 32) : vm_Ex E 1 n_J_bitCount [.int (nI n)] 0 0 μ (vm_PI (nI (vbc n)) μ) := by
  refine vm_start (D := 0) (by decide) rfl (Nat.le_of_ble_eq_true rfl) (k := k_J_bitCount) rfl (L := [.int (nI n)]) rfl ?_
  refine vm_r_iload_n rfl rfl rfl ?_
  refine vm_r_iload_n rfl rfl rfl ?_
  refine vm_r_iconst (kI := nI 1) rfl ?_
  refine vm_r_iushr rfl ?_
  refine vm_r_ldc_w (kI := nI 1431655765) rfl ?_
  refine vm_r_iand rfl ?_
  refine vm_r_isub rfl ?_
  refine vm_r_istore_n0 rfl rfl ?_
  refine vm_r_iload_n rfl rfl rfl ?_
  refine vm_r_ldc_w (kI := nI 858993459) rfl ?_
  refine vm_r_iand rfl ?_
  refine vm_r_iload_n rfl rfl rfl ?_
  refine vm_r_iconst (kI := nI 2) rfl ?_
  refine vm_r_iushr rfl ?_
  refine vm_r_ldc_w (kI := nI 858993459) rfl ?_
  refine vm_r_iand rfl ?_
  refine vm_r_iadd rfl ?_
  refine vm_r_istore_n0 rfl rfl ?_
  refine vm_r_iload_n rfl rfl rfl ?_
  refine vm_r_iload_n rfl rfl rfl ?_
  refine vm_r_iconst (kI := nI 4) rfl ?_
  refine vm_r_iushr rfl ?_
  refine vm_r_iadd rfl ?_
  refine vm_r_ldc_w (kI := nI 252645135) rfl ?_
  refine vm_r_iand rfl ?_
  refine vm_r_istore_n0 rfl rfl ?_
  refine vm_r_iload_n rfl rfl rfl ?_
  refine vm_r_iload_n rfl rfl rfl ?_
  refine vm_r_bipush (kI := nI 8) rfl ?_
  refine vm_r_iushr rfl ?_
  refine vm_r_iadd rfl ?_
  refine vm_r_istore_n0 rfl rfl ?_
  refine vm_r_iload_n rfl rfl rfl ?_
  refine vm_r_iload_n rfl rfl rfl ?_
  refine vm_r_bipush (kI := nI 16) rfl ?_
  refine vm_r_iushr rfl ?_
  refine vm_r_iadd rfl ?_
  refine vm_r_istore_n0 rfl rfl ?_
  refine vm_r_iload_n rfl rfl rfl ?_
  refine vm_r_bipush (kI := nI 63) rfl ?_
  refine vm_r_iand rfl ?_
  exact vm_r_ret rfl (fun h => by cases h) (vm_PI.mk (by revert n; decide +kernel))
end TOWN
