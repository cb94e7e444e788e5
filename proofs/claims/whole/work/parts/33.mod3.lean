/-! The model: where two sayings differ; one goes nearer; one asks. -/
theorem vdw_le (w : Nat) {f : Nat → Nat} {M : Nat} (hf : ∀ k, k < 5 → f k < M) (h0 : 0 < M) : ∀ n, (vdw w f n).2 < M
  | 0 => h0
  | n + 1 => by
    rw [vdw_s]
    split
    · exact hf _ (by omega)
    · exact vdw_le w hf h0 n
theorem vdw_ge (w : Nat) (f : Nat → Nat) : ∀ n, (vdw w f n).1 ≤ 5
  | 0 => Nat.le_refl 5
  | n + 1 => by
    rw [vdw_s]
    split
    · show 4 - n ≤ 5
      omega
    · exact vdw_ge w f n
theorem rI_no2 {μ : vm_M} {o k x : Nat} {v : Int32} (h : x ≠ o) : (vm_mI μ o k v).2.1 x = μ.2.1 x := if_neg h
section MOD3
variable {E : vm_V} {μ : vm_M} {m : Nat} {z : vZ} {T : vt_T}
theorem c_M_differ0 {a b w : Nat} {f g : Nat → Nat} (h : vMh μ.1 m) (hw : w < 2) (hf : ∀ k, k < 5 → f k < 8 ∧ μ.2.1 (m + 6) (a + k) = nI (f k)) (hg : ∀ k, k < 5 → g k < 8 ∧ μ.2.1 (m + 6) (b + k) = nI (g k)) (ha : a + 5 ≤ 63) (hb : b + 5 ≤ 63) :
    vm_Ex E 2 n_M_differ [.ref m, .int (nI a), .int (nI b), .int (nI w)] 0 0 μ (vm_PI (vo (vdw w (fun k => vab (f k) (g k)) 5).1) μ) := by
  have hM : ∀ k, k < 5 → (fun k => vab (f k) (g k)) k < 8 := fun k hk => vab_lt (hf k hk).1 (hg k hk).1
  refine vm_start (D := 1) (by decide) rfl (Nat.le_of_ble_eq_true rfl) (k := k_M_differ) rfl (L := [.ref m, .int (nI a), .int (nI b), .int (nI w), .retAddr 0, .retAddr 0, .retAddr 0, .retAddr 0, .retAddr 0]) rfl ?_
  refine vm_r_bipush rfl ?_
  refine vm_r_istore4 rfl rfl ?_
  refine vm_r_iconst (kI := nI 0) rfl ?_
  refine vm_r_istore5 rfl rfl ?_
  refine vm_r_iconst (kI := nI 4) rfl ?_
  refine vm_r_istore6 rfl rfl ?_
  refine vm_up (P := fun i => ∀ v u : Value, vm_W E (vm_Ex E 1) k_M_differ _ (10, [.ref m, .int (nI a), .int (nI b), .int (nI w), .int (vo (vdw w (fun k => vab (f k) (g k)) i).1), .int (nI (vdw w (fun k => vab (f k) (g k)) i).2), .int (v_d4 i), v, u], [], 0, 0, μ)) (N := 5) ?_ ?_ 0 (by omega) (.retAddr 0) (.retAddr 0)
  · intro v u
    refine vm_r_iload rfl rfl ?_
    refine vm_r_if_lt rfl (fun _ => ?_) (fun hn => absurd hn ((by decide)))
    refine vm_r_iload rfl rfl ?_
    refine vm_r_ret rfl (fun h => by cases h) (vm_PI.of rfl)
  · intro i hi ih v u
    have e1 : v_d4 i = nI (4 - i) := if_neg (by omega)
    obtain ⟨f1, f2⟩ := hf (4 - i) (by omega)
    obtain ⟨g1, g2⟩ := hg (4 - i) (by omega)
    have hb2 := vdw_le w hM (by decide) i
    have hg2 : vab (f (4 - i)) (g (4 - i)) < 8 := vab_lt f1 g1
    have fin : ∀ (P : Prop) [Decidable P], (P ↔ (0 < vab (f (4 - i)) (g (4 - i)) ∧ (w = 1 → (vdw w (fun k => vab (f k) (g k)) i).2 ≤ vab (f (4 - i)) (g (4 - i))))) → vm_W E (vm_Ex E 1) k_M_differ (vm_PI (vo (vdw w (fun k => vab (f k) (g k)) 5).1) μ) (73, [.ref m, .int (nI a), .int (nI b), .int (nI w), .int (vo (vdw w (fun k => vab (f k) (g k)) i).1), .int (nI (vdw w (fun k => vab (f k) (g k)) i).2), .int (nI (4 - i)), .int (nI (vab (f (4 - i)) (g (4 - i)))), u], [.int (vm_bi P)], 0, 0, μ) := by
      intro P _ hP
      have e4 : vo (4 - i) = nI (4 - i) := vo_lt (by omega)
      rw [vdw_s w _ i, ← v_d4_s i hi] at ih
      by_cases p : P
      · rw [if_pos (hP.mp p)] at ih
        have ih : ∀ v u : Value, vm_W E (vm_Ex E 1) k_M_differ (vm_PI (vo (vdw w (fun k => vab (f k) (g k)) 5).1) μ) (10, [.ref m, .int (nI a), .int (nI b), .int (nI w), .int (vo (4 - i)), .int (nI (vab (f (4 - i)) (g (4 - i)))), .int (nI (4 - i) + -1), v, u], [], 0, 0, μ) := ih
        rw [e4] at ih
        refine vm_r_istore8 rfl rfl ?_
        refine vm_r_iload rfl rfl ?_
        first | refine vm_r_if_eqB rfl (fun hn => absurd hn (not_not_intro p)) (fun _ => ?_) | refine vm_r_if_eqN rfl (by omega) (fun hn => absurd hn (not_not_intro p)) (fun _ => ?_) | refine vm_r_if_eq rfl (fun hn => absurd hn (not_not_intro p)) (fun _ => ?_)
        refine vm_r_iload rfl rfl ?_
        refine vm_r_goto rfl ?_
        refine vm_r_istore4 rfl rfl ?_
        refine vm_r_iload rfl rfl ?_
        first | refine vm_r_if_eqB rfl (fun hn => absurd hn (not_not_intro p)) (fun _ => ?_) | refine vm_r_if_eqN rfl (by omega) (fun hn => absurd hn (not_not_intro p)) (fun _ => ?_) | refine vm_r_if_eq rfl (fun hn => absurd hn (not_not_intro p)) (fun _ => ?_)
        refine vm_r_iload rfl rfl ?_
        refine vm_r_goto rfl ?_
        refine vm_r_istore5 rfl rfl ?_
        refine vm_r_iinc6 rfl rfl ?_
        refine vm_r_goto rfl ?_
        exact ih _ _
      · rw [if_neg (fun q => p (hP.mpr q))] at ih
        refine vm_r_istore8 rfl rfl ?_
        refine vm_r_iload rfl rfl ?_
        first | refine vm_r_if_eqB rfl (fun _ => ?_) (fun hn => absurd hn (p)) | refine vm_r_if_eqN rfl (by omega) (fun _ => ?_) (fun hn => absurd hn (p)) | refine vm_r_if_eq rfl (fun _ => ?_) (fun hn => absurd hn (p))
        refine vm_r_iload rfl rfl ?_
        refine vm_r_istore4 rfl rfl ?_
        refine vm_r_iload rfl rfl ?_
        first | refine vm_r_if_eqB rfl (fun _ => ?_) (fun hn => absurd hn (p)) | refine vm_r_if_eqN rfl (by omega) (fun _ => ?_) (fun hn => absurd hn (p)) | refine vm_r_if_eq rfl (fun _ => ?_) (fun hn => absurd hn (p))
        refine vm_r_iload rfl rfl ?_
        refine vm_r_istore5 rfl rfl ?_
        refine vm_r_iinc6 rfl rfl ?_
        refine vm_r_goto rfl ?_
        exact ih _ _
    rw [e1]
    refine vm_r_iload rfl rfl ?_
    refine vm_r_if_ltN rfl (by omega) ?_
    refine vm_r_aload_n rfl rfl rfl ?_
    refine vm_r_getR rfl (h.r6) ?_
    refine vm_r_iload_n rfl rfl rfl ?_
    refine vm_r_iload rfl rfl ?_
    first | refine vm_r_iaddN rfl ?_ | refine vm_r_iadd rfl ?_
    refine vm_r_iaload rfl (h.s6) (by omega) (by omega) (f2) ?_
    refine vm_r_aload_n rfl rfl rfl ?_
    refine vm_r_getR rfl (h.r6) ?_
    refine vm_r_iload_n rfl rfl rfl ?_
    refine vm_r_iload rfl rfl ?_
    first | refine vm_r_iaddN rfl ?_ | refine vm_r_iadd rfl ?_
    refine vm_r_iaload rfl (h.s6) (by omega) (by omega) (g2) ?_
    refine vm_r_isub rfl ?_
    refine vm_r_cs1I rfl (by decide) (Nat.le_of_ble_eq_true rfl) (vm_Ex_le (by first | exact Nat.le_of_ble_eq_true rfl | omega) (c_M_size (by omega) (by omega))) ?_
    refine vm_r_istore7 rfl rfl ?_
    refine vm_r_iload_n rfl rfl rfl ?_
    first | refine vm_r_if_eqB rfl (fun e => ?_) (fun e => ?_) | refine vm_r_if_eqN rfl (by omega) (fun e => ?_) (fun e => ?_) | refine vm_r_if_eq rfl (fun e => ?_) (fun e => ?_)
    · refine vm_r_iload rfl rfl ?_
      first | refine vm_r_if_leN rfl (by omega) (fun o => ?_) (fun o => ?_) | refine vm_r_if_le rfl (fun o => ?_) (fun o => ?_)
      · refine vm_r_iconst (kI := nI 0) rfl ?_
        exact fin False ⟨False.elim, fun q => absurd q.1 (by omega)⟩
      · refine vm_r_iconst (kI := nI 1) rfl ?_
        refine vm_r_goto rfl ?_
        exact fin True ⟨fun _ => ⟨by omega, fun q => by omega⟩, fun _ => trivial⟩
    · refine vm_r_iload rfl rfl ?_
      first | refine vm_r_if_leN rfl (by omega) (fun o => ?_) (fun o => ?_) | refine vm_r_if_le rfl (fun o => ?_) (fun o => ?_)
      · refine vm_r_iconst (kI := nI 0) rfl ?_
        refine vm_r_goto rfl ?_
        exact fin False ⟨False.elim, fun q => absurd q.1 (by omega)⟩
      · refine vm_r_iload rfl rfl ?_
        refine vm_r_iload rfl rfl ?_
        first | refine vm_r_icmp_ltN rfl (by omega) (by omega) (fun o2 => ?_) (fun o2 => ?_) | refine vm_r_icmp_lt rfl (fun o2 => ?_) (fun o2 => ?_)
        · refine vm_r_iconst (kI := nI 0) rfl ?_
          refine vm_r_goto rfl ?_
          exact fin False ⟨False.elim, fun q => absurd (q.2 (by omega)) (by omega)⟩
        · refine vm_r_iconst (kI := nI 1) rfl ?_
          refine vm_r_goto rfl ?_
          exact fin True ⟨fun _ => ⟨by omega, fun q => by omega⟩, fun _ => trivial⟩
theorem c_M_first {a b : Nat} {f g : Nat → Nat} (h : vMh μ.1 m) (hf : ∀ k, k < 5 → f k < 8 ∧ μ.2.1 (m + 6) (a + k) = nI (f k)) (hg : ∀ k, k < 5 → g k < 8 ∧ μ.2.1 (m + 6) (b + k) = nI (g k)) (ha : a + 5 ≤ 63) (hb : b + 5 ≤ 63) :
    vm_Ex E 2 n_M_differ [.ref m, .int (nI a), .int (nI b), .int (nI 0)] 0 0 μ (vm_PI (vo (vfd f g)) μ) := by
  have q := c_M_differ0 (E := E) h (w := 0) (by decide) hf hg ha hb
  rw [vdw_0] at q
  exact q
theorem c_M_widest {a b : Nat} {f g : Nat → Nat} (h : vMh μ.1 m) (hf : ∀ k, k < 5 → f k < 8 ∧ μ.2.1 (m + 6) (a + k) = nI (f k)) (hg : ∀ k, k < 5 → g k < 8 ∧ μ.2.1 (m + 6) (b + k) = nI (g k)) (ha : a + 5 ≤ 63) (hb : b + 5 ≤ 63) :
    vm_Ex E 2 n_M_differ [.ref m, .int (nI a), .int (nI b), .int (nI 1)] 0 0 μ (vm_PI (vo (vwd (fun k => vab (f k) (g k)) 5).1) μ) := by
  have q := c_M_differ0 (E := E) h (w := 1) (by decide) hf hg ha hb
  rw [vdw_1] at q
  exact q
theorem c_M_goNearer {a b : Nat} {f g : Nat → Nat} (h : vMh μ.1 m) (hf : ∀ k, k < 5 → f k < 8 ∧ μ.2.1 (m + 6) (a + k) = nI (f k)) (hg : ∀ k, k < 5 → g k < 8 ∧ μ.2.1 (m + 6) (b + k) = nI (g k)) (ha : a + 5 ≤ 63) (hb : b + 5 ≤ 63) :
    vm_Ex E 3 n_M_goNearer [.ref m, .int (nI a), .int (nI b)] 0 0 μ (vm_PX (fun v μ' => v = vo (vfd f g) ∧ vf μ μ' (m + 6) (m + 6) ∧ ∀ k, μ'.2.1 (m + 6) k = if vfd f g < 5 ∧ k = a + vfd f g then nI (vstep (f (vfd f g)) (g (vfd f g))) else μ.2.1 (m + 6) k)) := by
  refine vm_start (D := 2) (by decide) rfl (Nat.le_of_ble_eq_true rfl) (k := k_M_goNearer) rfl (L := [.ref m, .int (nI a), .int (nI b), .retAddr 0]) rfl ?_
  refine vm_r_aload_n rfl rfl rfl ?_
  refine vm_r_iload_n rfl rfl rfl ?_
  refine vm_r_iload_n rfl rfl rfl ?_
  refine vm_r_iconst (kI := nI 0) rfl ?_
  refine vm_r_cv4I rfl (by decide) (h.ob) (Nat.le_of_ble_eq_true rfl) (vm_Ex_le (by first | exact Nat.le_of_ble_eq_true rfl | omega) (c_M_first h hf hg ha hb)) ?_
  refine vm_r_istore_n3 rfl rfl rfl ?_
  refine vm_r_iload_n rfl rfl rfl ?_
  refine vm_r_bipush rfl ?_
  refine vm_r_icmp_eq rfl (fun e => ?_) (fun e => ?_)
  · have hk := vo_none.mp e
    refine vm_r_iload_n rfl rfl rfl ?_
    refine vm_r_ret rfl (fun h => by cases h) (⟨_, rfl, rfl, vf.rf, fun k => by rw [if_neg (fun q => hk q.1)]⟩)
  · have hk := vo_neg e
    obtain ⟨f1, f2⟩ := hf _ hk
    obtain ⟨g1, g2⟩ := hg _ hk
    rw [vo_lt hk]
    refine vm_r_aload_n rfl rfl rfl ?_
    refine vm_r_getR rfl (h.r6) ?_
    refine vm_r_iload_n rfl rfl rfl ?_
    refine vm_r_iload_n rfl rfl rfl ?_
    first | refine vm_r_iaddN rfl ?_ | refine vm_r_iadd rfl ?_
    refine vm_r_dup2 rfl rfl rfl ?_
    refine vm_r_iaload rfl (h.s6) (by omega) (by omega) (f2) ?_
    refine vm_r_aload_n rfl rfl rfl ?_
    refine vm_r_getR rfl (h.r6) ?_
    refine vm_r_iload_n rfl rfl rfl ?_
    refine vm_r_iload_n rfl rfl rfl ?_
    first | refine vm_r_iaddN rfl ?_ | refine vm_r_iadd rfl ?_
    refine vm_r_iaload rfl (h.s6) (by omega) (by omega) (f2) ?_
    refine vm_r_aload_n rfl rfl rfl ?_
    refine vm_r_getR rfl (h.r6) ?_
    refine vm_r_iload_n rfl rfl rfl ?_
    refine vm_r_iload_n rfl rfl rfl ?_
    first | refine vm_r_iaddN rfl ?_ | refine vm_r_iadd rfl ?_
    refine vm_r_iaload rfl (h.s6) (by omega) (by omega) (g2) ?_
    refine vm_r_cs2I rfl (by decide) (Nat.le_of_ble_eq_true rfl) (vm_Ex_le (by first | exact Nat.le_of_ble_eq_true rfl | omega) (c_M_nearer (by omega) (by omega))) ?_
    first | refine vm_r_iaddN rfl ?_ | refine vm_r_iadd rfl ?_
    refine vm_r_top ((vnd_add _ f1 _ g1)) ?_
    refine vm_r_iastore rfl (h.s6) (by omega) (by omega) ?_
    refine vm_r_iload_n rfl rfl rfl ?_
    refine vm_r_ret rfl (fun h => by cases h) (⟨_, rfl, rfl, vf.mI (Nat.le_refl _) (Nat.le_refl _), ?_⟩)
    intro k
    by_cases q : k = a + vfd f g
    · subst q
      rw [rI_eq, if_pos ⟨hk, rfl⟩]
    · rw [rI_nk q, if_neg (fun y => q y.2)]
theorem vd_nr {c c' k : Nat} (hc : vok c) (hc' : vok c') {j : Nat} (hj : j < 5) : vd (vnr c c' k) j = if k < 5 ∧ j = k then vstep (vd c k) (vd c' k) else vd c j := by
  rw [vnr_d hc hc' hj]
  by_cases e : j = k
  · rw [if_pos e, if_pos ⟨by omega, e⟩]
  · rw [if_neg e, if_neg (fun q => e q.2)]
theorem vRow.con {I I' : Nat → Int32} {p q : Nat} (h : vRow I T) (hT : vt_ok T) (hp : p < tP T) (hq : q < tP T) (e : ∀ k, I' k = if vfd (vd (tB T p)) (vd (tB T q)) < 5 ∧ k = 25 + 5 * p + vfd (vd (tB T p)) (vd (tB T q)) then nI (vstep (vd (tB T p) (vfd (vd (tB T p)) (vd (tB T q)))) (vd (tB T q) (vfd (vd (tB T p)) (vd (tB T q))))) else I k) : vRow I' (vcon T p q) := by
  have hG := hT.1
  have hP := hT.2.1
  obtain ⟨h1, h2, h3, h4, h5⟩ := h
  refine ⟨fun g k hg hk => ?_, fun r k hr hk => ?_, fun r hr => ?_, ?_, ?_⟩
  · have hg : g < tG T := hg
    rw [e, if_neg (fun q => by have := q.1; have := q.2; omega)]
    exact h1 g k hg hk
  · have hr : r < tP T := hr
    show _ = nI (vd (vu (tB T) p _ r) k)
    by_cases y : r = p
    · subst y
      rw [vu_eq, vd_nr (hT.B hp) (hT.B hq) hk, e]
      by_cases w : vfd (vd (tB T r)) (vd (tB T q)) < 5 ∧ k = vfd (vd (tB T r)) (vd (tB T q))
      · rw [if_pos w, if_pos ⟨w.1, by have := w.2; omega⟩]
      · rw [if_neg w, if_neg (fun y => w ⟨y.1, by have := y.2; omega⟩)]
        exact h2 r k hr hk
    · rw [vu_ne y, e, if_neg (fun q => by have := q.1; have := q.2; omega)]
      exact h2 r k hr hk
  · have hr : r < tP T := hr
    rw [e, if_neg (fun q => by have := q.1; have := q.2; omega)]
    exact h3 r hr
  · rw [e, if_neg (fun q => by have := q.1; have := q.2; omega)]
    exact h4
  · rw [e, if_neg (fun q => by have := q.1; have := q.2; omega)]
    exact h5
theorem vRow.lis {I I' : Nat → Int32} {p q : Nat} (h : vRow I T) (hT : vt_ok T) (hp : p < tG T) (hq : q < tG T) (e : ∀ k, I' k = if vfd (vd (tA T p)) (vd (tA T q)) < 5 ∧ k = 5 * p + vfd (vd (tA T p)) (vd (tA T q)) then nI (vstep (vd (tA T p) (vfd (vd (tA T p)) (vd (tA T q)))) (vd (tA T q) (vfd (vd (tA T p)) (vd (tA T q))))) else I k) : vRow I' (vlis T p q) := by
  have hG := hT.1
  have hP := hT.2.1
  obtain ⟨h1, h2, h3, h4, h5⟩ := h
  refine ⟨fun r k hr hk => ?_, fun g k hg hk => ?_, fun r hr => ?_, ?_, ?_⟩
  · have hr : r < tG T := hr
    show _ = nI (vd (vu (tA T) p _ r) k)
    by_cases y : r = p
    · subst y
      rw [vu_eq, vd_nr (hT.A hp) (hT.A hq) hk, e]
      by_cases w : vfd (vd (tA T r)) (vd (tA T q)) < 5 ∧ k = vfd (vd (tA T r)) (vd (tA T q))
      · rw [if_pos w, if_pos ⟨w.1, by have := w.2; omega⟩]
      · rw [if_neg w, if_neg (fun y => w ⟨y.1, by have := y.2; omega⟩)]
        exact h1 r k hr hk
    · rw [vu_ne y, e, if_neg (fun q => by have := q.1; have := q.2; omega)]
      exact h1 r k hr hk
  · have hg : g < tP T := hg
    rw [e, if_neg (fun q => by have := q.1; have := q.2; omega)]
    exact h2 g k hg hk
  · have hr : r < tP T := hr
    rw [e, if_neg (fun q => by have := q.1; have := q.2; omega)]
    exact h3 r hr
  · rw [e, if_neg (fun q => by have := q.1; have := q.2; omega)]
    exact h4
  · rw [e, if_neg (fun q => by have := q.1; have := q.2; omega)]
    exact h5
theorem vTold.up {I : Nat → Int32} {T U : vt_T} (h : vTold I T) (e : U.1 = T.1 ∧ tK U = tK T ∧ tE U = tE T) : vTold I U := by
  obtain ⟨e1, e2, e3⟩ := e
  have eG : tG U = tG T := congrArg Prod.fst e1
  have eP : tP U = tP T := congrArg Prod.snd e1
  unfold vTold
  rw [eG, eP, e2, e3]
  exact h
theorem vfd_comm (f g : Nat → Nat) : vfd f g = vfd g f := by
  unfold vfd
  refine fa_first_eq (fa_first_le _ 5) (fun j hj => ?_) (fun hj => ?_)
  · have q := fa_first_no (fun j => decide (g j ≠ f j)) 5 j hj
    simp only [decide_eq_false_iff_not, Classical.not_not] at q ⊢
    exact q.symm
  · have q := fa_first_yes (fun j => decide (g j ≠ f j)) 5 hj
    simp only [decide_eq_true_eq] at q ⊢
    exact fun y => q y.symm
theorem vwd_fd (f g : Nat → Nat) : (vwd (fun k => vab (f k) (g k)) 5).1 < 5 ↔ vfd f g < 5 := by
  rcases vwd_ch (fun k => vab (f k) (g k)) 5 (Nat.le_refl 5) with ⟨h1, h2, h3⟩ | ⟨h1, h2, h3, h4, h5⟩
  · rw [h1]
    refine ⟨fun q => absurd q (by decide), fun q => ?_⟩
    have y := fa_first_yes (fun j => decide (f j ≠ g j)) 5 q
    simp only [decide_eq_true_eq] at y
    exact absurd (vab_0.mp (h3 _ q)) y
  · refine ⟨fun _ => ?_, fun _ => h1⟩
    apply Classical.byContradiction
    intro q
    have y := fa_first_no (fun j => decide (f j ≠ g j)) 5 _ (Nat.lt_of_lt_of_le h1 (Nat.not_lt.mp q))
    simp only [decide_eq_false_iff_not, Classical.not_not] at y
    have y2 := vab_0.mpr y
    have h2 : vab (f (vwd (fun k => vab (f k) (g k)) 5).1) (g (vwd (fun k => vab (f k) (g k)) 5).1) = _ := h2
    omega
theorem vRow.vis {I I' : Nat → Int32} {p g kw kf : Nat} (h : vRow I T) (hT : vt_ok T) (hp : p < tP T) (hg : g < tG T) (hw : kw = (vwd (fun k => vab (vd (tA T g) k) (vd (tB T p) k)) 5).1) (hf : kf = vfd (vd (tB T p)) (vd (tA T g)))
    (e : ∀ k, I' k = if kw < 5 ∧ k = 5 * g + kw then nI (vstep (vd (tA T g) kw) (vd (tB T p) kw)) else if kf < 5 ∧ k = 25 + 5 * p + kf then nI (vstep (vd (tB T p) kf) (vd (tA T g) kf)) else if k = 55 + p then nI g else if k = 61 then tI T + 1 else I k) : vRow I' (vvis1 T p g) := by
  have hG := hT.1
  have hP := hT.2.1
  obtain ⟨h1, h2, h3, h4, h5⟩ := h
  refine ⟨fun r k hr hk => ?_, fun r k hr hk => ?_, fun r hr => ?_, ?_, ?_⟩
  · have hr : r < tG T := hr
    show _ = nI (vd (vu (tA T) g (vnr (tA T g) (tB T p) (vwd (fun k => vab (vd (tA T g) k) (vd (tB T p) k)) 5).1) r) k)
    rw [← hw]
    by_cases y : r = g
    · subst y
      rw [vu_eq, vd_nr (hT.A hg) (hT.B hp) hk, e]
      by_cases w : kw < 5 ∧ k = kw
      · rw [if_pos w, if_pos ⟨w.1, by have := w.2; omega⟩]
      · rw [if_neg w, if_neg (fun y => w ⟨y.1, by have := y.2; omega⟩), if_neg (fun q => by have := q.1; have := q.2; omega), if_neg (by omega), if_neg (by omega)]
        exact h1 r k hr hk
    · rw [vu_ne y, e, if_neg (fun q => by have := q.1; have := q.2; omega), if_neg (fun q => by have := q.1; have := q.2; omega), if_neg (by omega), if_neg (by omega)]
      exact h1 r k hr hk
  · have hr : r < tP T := hr
    show _ = nI (vd (vu (tB T) p (vnr (tB T p) (tA T g) (vfd (vd (tB T p)) (vd (tA T g)))) r) k)
    rw [← hf]
    by_cases y : r = p
    · subst y
      rw [vu_eq, vd_nr (hT.B hp) (hT.A hg) hk, e, if_neg (fun q => by have := q.1; have := q.2; omega)]
      by_cases w : kf < 5 ∧ k = kf
      · rw [if_pos w, if_pos ⟨w.1, by have := w.2; omega⟩]
      · rw [if_neg w, if_neg (fun y => w ⟨y.1, by have := y.2; omega⟩), if_neg (by omega), if_neg (by omega)]
        exact h2 r k hr hk
    · rw [vu_ne y, e, if_neg (fun q => by have := q.1; have := q.2; omega), if_neg (fun q => by have := q.1; have := q.2; omega), if_neg (by omega), if_neg (by omega)]
      exact h2 r k hr hk
  · have hr : r < tP T := hr
    show _ = vu (tH T) p (nI g) r
    rw [e, if_neg (fun q => by have := q.1; have := q.2; omega), if_neg (fun q => by have := q.1; have := q.2; omega)]
    by_cases y : r = p
    · subst y
      rw [if_pos rfl, vu_eq]
    · rw [if_neg (by omega), if_neg (by omega), vu_ne y]
      exact h3 r hr
  · rw [e, if_neg (fun q => by have := q.1; have := q.2; omega), if_neg (fun q => by have := q.1; have := q.2; omega), if_neg (by omega), if_pos rfl]
    rfl
  · rw [e, if_neg (fun q => by have := q.1; have := q.2; omega), if_neg (fun q => by have := q.1; have := q.2; omega), if_neg (by omega), if_neg (by omega)]
    exact h5
theorem vSd.f {μ1 : vm_M} (h : vSd μ m T) (f : vf μ μ1 (m + 12) (m + 12)) : vSd μ1 m T := ⟨by rw [f.1]; exact h.1, by rw [f.2.2 _ (by omega)]; exact h.2.1, by rw [f.2.2 _ (by omega)]; exact h.2.2.1, h.2.2.2⟩
theorem c_M_goAsk {p g : Nat} (h : vSd μ m T) (hp : p < tP T) (hg : g < tG T) : vm_Ex E 5 n_M_goAsk [.ref m, .int (nI p), .int (nI g)] 0 0 μ (vm_PX (fun v μ' => v = vm_bi (vadm T (tB T p) g) ∧ vg μ μ' m ∧ vSd μ' m (vvis T p g))) := by
  have hT := h.2.2.2
  have hG := hT.1
  have hP := hT.2.1
  refine vm_start (D := 4) (by decide) rfl (Nat.le_of_ble_eq_true rfl) (k := k_M_goAsk) rfl (L := [.ref m, .int (nI p), .int (nI g), .retAddr 0, .retAddr 0, .retAddr 0, .retAddr 0, .retAddr 0, .retAddr 0]) rfl ?_
  refine vm_r_aload_n rfl rfl rfl ?_
  refine vm_r_iload_n rfl rfl rfl ?_
  refine vm_r_iload_n rfl rfl rfl ?_
  refine vm_r_cv3X rfl (by decide) (h.1.ob) (Nat.le_of_ble_eq_true rfl) (vm_Ex_le (by first | exact Nat.le_of_ble_eq_true rfl | omega) (c_M_letsIn h hp hg)) (fun v1 μ1 q1 => ?_)
  obtain ⟨rfl, f1⟩ := q1
  have h1 := h.f f1
  obtain ⟨r1, r2, r3, r4, r5⟩ := h1.2.2.1
  have hA := hT.A hg
  have hB := hT.B hp
  first | refine vm_r_if_neB rfl (fun ad => ?_) (fun ad => ?_) | refine vm_r_if_neN rfl (by omega) (fun ad => ?_) (fun ad => ?_) | refine vm_r_if_ne rfl (fun ad => ?_) (fun ad => ?_)
  · have h3 : vMh (vm_mI (vm_mI μ1 (m + 6) 61 (tI T + nI 1)) (m + 6) (55 + p) (nI g)).1 m := h1.1
    have kA : ∀ k, k < 5 → vd (tA T g) k < 8 ∧ (vm_mI (vm_mI μ1 (m + 6) 61 (tI T + nI 1)) (m + 6) (55 + p) (nI g)).2.1 (m + 6) (5 * g + k) = nI (vd (tA T g) k) := fun k hk => ⟨vd_lt _ _, by rw [rI_nk (by omega), rI_nk (by omega)]; exact r1 g k hg hk⟩
    have kB : ∀ k, k < 5 → vd (tB T p) k < 8 ∧ (vm_mI (vm_mI μ1 (m + 6) 61 (tI T + nI 1)) (m + 6) (55 + p) (nI g)).2.1 (m + 6) (25 + 5 * p + k) = nI (vd (tB T p) k) := fun k hk => ⟨vd_lt _ _, by rw [rI_nk (by omega), rI_nk (by omega)]; exact r2 p k hp hk⟩
    have hfd := vwd_fd (vd (tA T g)) (vd (tB T p))
    have hcm := vfd_comm (vd (tA T g)) (vd (tB T p))
    refine vm_r_aload_n rfl rfl rfl ?_
    refine vm_r_getR rfl (h1.1.r6) ?_
    refine vm_r_bipush (kI := nI 61) rfl ?_
    refine vm_r_dup2 rfl rfl rfl ?_
    refine vm_r_iaload rfl (h1.1.s6) (by omega) (by omega) (r4) ?_
    refine vm_r_iconst (kI := nI 1) rfl ?_
    refine vm_r_iadd rfl ?_
    refine vm_r_iastore rfl (h1.1.s6) (by omega) (by omega) ?_
    refine vm_r_aload_n rfl rfl rfl ?_
    refine vm_r_getR rfl (h3.r6) ?_
    refine vm_r_bipush (kI := nI 55) rfl ?_
    refine vm_r_iload_n rfl rfl rfl ?_
    first | refine vm_r_iaddN rfl ?_ | refine vm_r_iadd rfl ?_
    refine vm_r_iload_n rfl rfl rfl ?_
    refine vm_r_iastore rfl (h3.s6) (by omega) (by omega) ?_
    refine vm_r_iconst (kI := nI 5) rfl ?_
    refine vm_r_iload_n rfl rfl rfl ?_
    first | refine vm_r_imulN rfl ?_ | refine vm_r_imul rfl ?_
    refine vm_r_istore_n3 rfl rfl rfl ?_
    refine vm_r_bipush (kI := nI 25) rfl ?_
    refine vm_r_iconst (kI := nI 5) rfl ?_
    refine vm_r_iload_n rfl rfl rfl ?_
    first | refine vm_r_imulN rfl ?_ | refine vm_r_imul rfl ?_
    first | refine vm_r_iaddN rfl ?_ | refine vm_r_iadd rfl ?_
    refine vm_r_istore4 rfl rfl ?_
    refine vm_r_aload_n rfl rfl rfl ?_
    refine vm_r_iload_n rfl rfl rfl ?_
    refine vm_r_iload rfl rfl ?_
    refine vm_r_iconst (kI := nI 1) rfl ?_
    refine vm_r_cv4I rfl (by decide) (h3.ob) (Nat.le_of_ble_eq_true rfl) (vm_Ex_le (by first | exact Nat.le_of_ble_eq_true rfl | omega) (c_M_widest h3 kA kB (by omega) (by omega))) ?_
    refine vm_r_istore5 rfl rfl ?_
    refine vm_r_aload_n rfl rfl rfl ?_
    refine vm_r_iload_n rfl rfl rfl ?_
    refine vm_r_iload rfl rfl ?_
    refine vm_r_iconst (kI := nI 0) rfl ?_
    refine vm_r_cv4I rfl (by decide) (h3.ob) (Nat.le_of_ble_eq_true rfl) (vm_Ex_le (by first | exact Nat.le_of_ble_eq_true rfl | omega) (c_M_first h3 kA kB (by omega) (by omega))) ?_
    refine vm_r_istore6 rfl rfl ?_
    refine vm_r_iload rfl rfl ?_
    refine vm_r_bipush rfl ?_
    refine vm_r_icmp_eq rfl (fun e => ?_) (fun e => ?_)
    · have hk := vo_none.mp e
      refine vm_r_iconst (kI := nI 1) rfl ?_
      refine vm_r_ret rfl (fun _ => by first | exact vm_bi_01 _ | decide) (⟨_, rfl, (vm_bi_t ad).symm, ?_, h3, ?_, ?_, ?_⟩)
      · exact (f1.g (by omega)).tr ((vf.mI (Nat.le_refl _) (Nat.le_refl _)).tr (vf.mI (Nat.le_refl _) (Nat.le_refl _)) |>.g (by omega))
      · rw [rI_no2 (by omega), rI_no2 (by omega)]
        exact h1.2.1.up (vvis_1 T p g)
      · unfold vvis
        rw [if_pos ad]
        refine vRow.vis ⟨r1, r2, r3, r4, r5⟩ hT hp hg rfl rfl (fun k => ?_)
        rw [if_neg (fun q => hk q.1), if_neg (fun q => hk (hfd.mpr (by rw [hcm]; exact q.1)))]
        by_cases y : k = 55 + p
        · subst y
          rw [rI_eq, if_pos rfl]
        · rw [rI_nk y, if_neg y]
          by_cases y2 : k = 61
          · subst y2
            rw [rI_eq, if_pos rfl]
            rfl
          · rw [rI_nk y2, if_neg y2]
      · exact vvis_ok hT hp hg
    · have hk := vo_neg e
      have hk2 := hfd.mp hk
      have kA1 := kA _ hk
      have kA2 := kA _ hk2
      have kB1 := kB _ hk
      have kB2 := kB _ hk2
      rw [vo_lt hk, vo_lt hk2]
      generalize ew : (vwd (fun k => vab (vd (tA T g) k) (vd (tB T p) k)) 5).1 = kw at *
      generalize ef : vfd (vd (tA T g)) (vd (tB T p)) = kf at *
      refine vm_r_aload_n rfl rfl rfl ?_
      refine vm_r_getR rfl (h3.r6) ?_
      refine vm_r_iload_n rfl rfl rfl ?_
      refine vm_r_iload rfl rfl ?_
      first | refine vm_r_iaddN rfl ?_ | refine vm_r_iadd rfl ?_
      refine vm_r_iaload rfl (h3.s6) (by omega) (by omega) (kA1.2) ?_
      refine vm_r_aload_n rfl rfl rfl ?_
      refine vm_r_getR rfl (h3.r6) ?_
      refine vm_r_iload rfl rfl ?_
      refine vm_r_iload rfl rfl ?_
      first | refine vm_r_iaddN rfl ?_ | refine vm_r_iadd rfl ?_
      refine vm_r_iaload rfl (h3.s6) (by omega) (by omega) (kB1.2) ?_
      refine vm_r_cs2I rfl (by decide) (Nat.le_of_ble_eq_true rfl) (vm_Ex_le (by first | exact Nat.le_of_ble_eq_true rfl | omega) (c_M_nearer (by omega) (by omega))) ?_
      refine vm_r_istore7 rfl rfl ?_
      refine vm_r_aload_n rfl rfl rfl ?_
      refine vm_r_getR rfl (h3.r6) ?_
      refine vm_r_iload rfl rfl ?_
      refine vm_r_iload rfl rfl ?_
      first | refine vm_r_iaddN rfl ?_ | refine vm_r_iadd rfl ?_
      refine vm_r_iaload rfl (h3.s6) (by omega) (by omega) (kB2.2) ?_
      refine vm_r_aload_n rfl rfl rfl ?_
      refine vm_r_getR rfl (h3.r6) ?_
      refine vm_r_iload_n rfl rfl rfl ?_
      refine vm_r_iload rfl rfl ?_
      first | refine vm_r_iaddN rfl ?_ | refine vm_r_iadd rfl ?_
      refine vm_r_iaload rfl (h3.s6) (by omega) (by omega) (kA2.2) ?_
      refine vm_r_cs2I rfl (by decide) (Nat.le_of_ble_eq_true rfl) (vm_Ex_le (by first | exact Nat.le_of_ble_eq_true rfl | omega) (c_M_nearer (by omega) (by omega))) ?_
      refine vm_r_istore8 rfl rfl ?_
      refine vm_r_aload_n rfl rfl rfl ?_
      refine vm_r_getR rfl (h3.r6) ?_
      refine vm_r_iload_n rfl rfl rfl ?_
      refine vm_r_iload rfl rfl ?_
      first | refine vm_r_iaddN rfl ?_ | refine vm_r_iadd rfl ?_
      refine vm_r_dup2 rfl rfl rfl ?_
      refine vm_r_iaload rfl (h3.s6) (by omega) (by omega) (kA1.2) ?_
      refine vm_r_iload rfl rfl ?_
      refine vm_r_iadd rfl ?_
      have e9 : (vm_mI (vm_mI (vm_mI μ1 (m + 6) 61 (tI T + nI 1)) (m + 6) (55 + p) (nI g)) (m + 6) (5 * g + kw) (nI (vstep (vd (tA T g) kw) (vd (tB T p) kw)))).2.1 (m + 6) (25 + 5 * p + kf) = nI (vd (tB T p) kf) := by rw [rI_nk (by omega)]; exact kB2.2
      refine vm_r_top ((vnd_add _ kA1.1 _ kB1.1)) ?_
      refine vm_r_iastore rfl (h3.s6) (by omega) (by omega) ?_
      refine vm_r_aload_n rfl rfl rfl ?_
      refine vm_r_getR rfl (h3.r6) ?_
      refine vm_r_iload rfl rfl ?_
      refine vm_r_iload rfl rfl ?_
      first | refine vm_r_iaddN rfl ?_ | refine vm_r_iadd rfl ?_
      refine vm_r_dup2 rfl rfl rfl ?_
      refine vm_r_iaload rfl (h3.s6) (by omega) (by omega) (e9) ?_
      refine vm_r_iload rfl rfl ?_
      refine vm_r_iadd rfl ?_
      refine vm_r_top ((vnd_add _ kB2.1 _ kA2.1)) ?_
      refine vm_r_iastore rfl (h3.s6) (by omega) (by omega) ?_
      refine vm_r_iconst (kI := nI 1) rfl ?_
      refine vm_r_ret rfl (fun _ => by first | exact vm_bi_01 _ | decide) (⟨_, rfl, (vm_bi_t ad).symm, ?_, h3, ?_, ?_, ?_⟩)
      · exact (f1.g (by omega)).tr ((((vf.mI (Nat.le_refl _) (Nat.le_refl _)).tr (vf.mI (Nat.le_refl _) (Nat.le_refl _))).tr (vf.mI (Nat.le_refl _) (Nat.le_refl _))).tr (vf.mI (Nat.le_refl _) (Nat.le_refl _)) |>.g (by omega))
      · rw [rI_no2 (by omega), rI_no2 (by omega), rI_no2 (by omega), rI_no2 (by omega)]
        exact h1.2.1.up (vvis_1 T p g)
      · unfold vvis
        rw [if_pos ad]
        refine vRow.vis ⟨r1, r2, r3, r4, r5⟩ hT hp hg (kw := kw) (kf := kf) ew.symm hcm (fun k => ?_)
        by_cases y0 : k = 25 + 5 * p + kf
        · subst y0
          rw [rI_eq, if_neg (fun q => by have := q.2; omega), if_pos ⟨hk2, rfl⟩]
        · rw [rI_nk y0]
          by_cases y1 : k = 5 * g + kw
          · subst y1
            rw [rI_eq, if_pos ⟨hk, rfl⟩]
          · rw [rI_nk y1, if_neg (fun q => y1 q.2), if_neg (fun q => y0 q.2)]
            by_cases y : k = 55 + p
            · subst y
              rw [rI_eq, if_pos rfl]
            · rw [rI_nk y, if_neg y]
              by_cases y2 : k = 61
              · subst y2
                rw [rI_eq, if_pos rfl]
                rfl
              · rw [rI_nk y2, if_neg y2]
      · exact vvis_ok hT hp hg
  · refine vm_r_aload_n rfl rfl rfl ?_
    refine vm_r_getR rfl (h1.1.r6) ?_
    refine vm_r_bipush (kI := nI 62) rfl ?_
    refine vm_r_dup2 rfl rfl rfl ?_
    refine vm_r_iaload rfl (h1.1.s6) (by omega) (by omega) (r5) ?_
    refine vm_r_iconst (kI := nI 1) rfl ?_
    refine vm_r_iadd rfl ?_
    refine vm_r_iastore rfl (h1.1.s6) (by omega) (by omega) ?_
    refine vm_r_iconst (kI := nI 0) rfl ?_
    refine vm_r_ret rfl (fun _ => by first | exact vm_bi_01 _ | decide) (⟨_, rfl, (vm_bi_f ad).symm, (f1.g (by omega)).tr ((vf.mI (Nat.le_refl _) (Nat.le_refl _)).g (by omega)), h1.1, ?_, ?_, vvis_ok hT hp hg⟩)
    · rw [rI_no2 (by omega)]
      exact h1.2.1.up (vvis_1 T p g)
    · unfold vvis
      rw [if_neg ad]
      refine ⟨fun r k hr hk => ?_, fun r k hr hk => ?_, fun r hr => ?_, ?_, ?_⟩
      · have hr : r < tG T := hr
        rw [rI_nk (by omega)]
        exact r1 r k hr hk
      · have hr : r < tP T := hr
        rw [rI_nk (by omega)]
        exact r2 r k hr hk
      · have hr : r < tP T := hr
        rw [rI_nk (by omega)]
        exact r3 r hr
      · rw [rI_nk (by omega)]
        exact r4
      · rw [rI_eq]
        rfl
end MOD3
