/-! The search for the fewest talks: its run. -/
theorem vX_at {T : vt_T} {p i k : Nat} (hik : i < k) (h : i < (vX T p k).1) : i < (vX T p i).1 ∧ (vX T p k).2.1 i = (vX T p i).2.1 i := by
  have h1 : i < (vX T p i).1 := Classical.byContradiction fun z => by
    have := vX_stop (T := T) (p := p) (n := i) (by omega) (k - i)
    rw [show i + (k - i) = k by omega] at this
    rw [this] at h
    omega
  have := vX_keep h1 (k - i)
  rw [show i + (k - i) = k by omega] at this
  exact ⟨h1, this.2.1⟩
theorem vX_same {T : vt_T} {p b : Nat} (h : ∀ i, b ≤ i → i < (vX T p b).1 → 30 ≤ (vX T p b).2.2.2 i) : ∀ m, vX T p (b + m) = vX T p b
  | 0 => rfl
  | m + 1 => by
    have ih := vX_same h m
    rw [← Nat.add_assoc, vX_s, if_neg (fun z => by
      rw [ih] at z
      have := h (b + m) (by omega) z.1
      omega)]
    exact ih
section RUN
variable {E : vm_V} {μ : vm_M} {l t p g : Nat} {T : vt_T} {st : vl_T}
theorem vL.fld {μ' : vm_M} {k : Nat} {v : Int32} (h : vL μ l st) (hk : k = 3 ∨ k = 4) (e : μ' = vm_mI μ l k v) : vL μ' l st := by
  subst e
  refine ⟨h.1, h.2.1, ?_, fun i hi => ?_, h.2.2.2.2⟩
  · rw [rI_nk (by omega)]
    exact h.2.2.1
  · rw [rI_no (by omega)]
    exact h.v hi
theorem vL.fr {μ' : vm_M} (h : vL μ l st) (x : vx μ μ' l (l + 2)) : (μ'.1 l = some (.inl (1, [some (some (l + 1)), some (some (l + 2)), none, none, none])) ∧ μ'.1 (l + 1) = some (.inr (0, 7776)) ∧ μ'.1 (l + 2) = some (.inr (3, 512))) := by
  rw [x.1]
  exact h.1
theorem c_LS_run (h : vL μ l st) (ht : vt_C μ t T) (hd : t + 5 < l ∨ l + 2 < t) (hp : p < tP T) (hg : g < tG T) : vm_Ex E 6 n_LS_run [.ref l, .ref t, .int (nI p), .int (nI g)] 0 0 μ (vm_PV (fun μ' => vx μ μ' l (l + 2) ∧ (∃ st', vL μ' l st') ∧ μ'.2.1 l 3 = vl0 T p g ∧ μ'.2.1 l 4 = vl1 T p g)) := by
  have hP := ht.ok.P6
  have hG := ht.ok.G5
  have hB := ht.ok.B hp
  refine vm_start (D := 5) (by decide) rfl (Nat.le_of_ble_eq_true rfl) (k := k_LS_run) rfl (L := [.ref l, .ref t, .int (nI p), .int (nI g), .retAddr 0, .retAddr 0, .retAddr 0, .retAddr 0]) rfl ?_
  refine vm_r_aload_n rfl rfl rfl ?_
  refine vm_r_bipush rfl ?_
  refine vm_r_putI rfl (h.w3) ?_
  refine vm_r_aload_n rfl rfl rfl ?_
  refine vm_r_bipush rfl ?_
  refine vm_r_putI rfl (h.w4) ?_
  have h1 := (h.fld (μ' := vm_mI μ l 3 (-4)) (Or.inl rfl) rfl).fld (μ' := vm_mI (vm_mI μ l 3 (-4)) l 4 (-4)) (Or.inr rfl) rfl
  have x1 : vx μ (vm_mI (vm_mI μ l 3 (-4)) l 4 (-4)) l (l + 2) := ((vf.mI (by omega) (by omega)).tr (vf.mI (by omega) (by omega))).x
  have g3 : (vm_mI (vm_mI μ l 3 (-4)) l 4 (-4)).2.1 l 3 = -4 := by
    rw [rI_nk (by decide), rI_eq]
  have g4 : (vm_mI (vm_mI μ l 3 (-4)) l 4 (-4)).2.1 l 4 = -4 := rI_eq
  have ht1 := ht.keepx x1 (by omega)
  refine vm_r_aload_n rfl rfl rfl ?_
  refine vm_r_cv1V rfl (by decide) (h1.ob) (Nat.le_of_ble_eq_true rfl) (vm_Ex_le (by first | exact Nat.le_of_ble_eq_true rfl | omega) (c_LS_forgetAll h1)) (fun μ2 q2 => ?_)
  obtain ⟨⟨x2, k2⟩, h2⟩ := q2
  have h2 := h2 (fun _ => tB T p) (fun _ => 0) (fun _ => 0)
  have ht2 := ht1.keepx x2 (by omega)
  refine vm_r_aload_n rfl rfl rfl ?_
  refine vm_r_aload_n rfl rfl rfl ?_
  refine vm_r_getR rfl (ht2.s.rB) ?_
  refine vm_r_iload_n rfl rfl rfl ?_
  refine vm_r_iaload rfl (ht2.s.sB) (by omega) (by omega) (ht2.vB hp) ?_
  refine vm_r_iconst (kI := nI 0) rfl ?_
  refine vm_r_cv3V rfl (by decide) (h2.ob) (Nat.le_of_ble_eq_true rfl) (vm_Ex_le (by first | exact Nat.le_of_ble_eq_true rfl | omega) (c_LS_reach (sp := 0) h2 hB (by decide))) (fun μ3 q3 => ?_)
  obtain ⟨⟨x3, k3⟩, h3⟩ := q3
  have e0 : rch (0, (fun _ => tB T p), (fun _ => 0), (fun _ => 0)) (tB T p) 0 0 = vX T p 0 := by
    have eu : ∀ (a i : Nat), vu (fun _ => a) i a = fun _ => a := fun a i => by
      funext j
      unfold vu
      split <;> rfl
    show (0 + 1, vu (fun _ => tB T p) 0 (tB T p), vu (fun _ => 0) 0 0, vu (fun _ => 0) 0 0) = _
    rw [eu, eu]
    rfl
  rw [e0] at h3
  have f3 : vx μ μ3 l (l + 2) ∧ μ3.2.1 l 3 = -4 ∧ μ3.2.1 l 4 = -4 := ⟨(x1.tr x2).tr x3, by rw [k3 3 (by decide), k2 3 (by decide)]; exact g3, by rw [k3 4 (by decide), k2 4 (by decide)]; exact g4⟩
  refine vm_r_iconst (kI := nI 0) rfl ?_
  refine vm_r_istore4 rfl rfl ?_
  refine vm_r_iconst (kI := nI 0) rfl ?_
  refine vm_r_istore5 rfl rfl ?_
  refine vm_up (P := fun d => ∀ (μ4 : vm_M) (b : Nat) (st : vl_T) (v w : Value), vm_nlv v = true → vm_nlv w = true → (vx μ μ4 l (l + 2) ∧ μ4.2.1 l 3 = -4 ∧ μ4.2.1 l 4 = -4) → vL μ4 l st → b ≤ st.1 → (d < 31 → st = vX T p b ∧ (∀ i, i < b → ¬ vadm T (st.2.1 i) g) ∧ ∀ i, b ≤ i → i < st.1 → st.2.2.2 i = d) → (31 ≤ d → vlK T p g = 7777) →
    vm_W E (vm_Ex E 5) k_LS_run _ (33, [.ref l, .ref t, .int (nI p), .int (nI g), .int (nI b), .int (nI d), v, w], [], 0, 0, μ4)) (N := 31) ?_ ?_ 0 (by decide) μ3 0 _ (.retAddr 0) (.retAddr 0) rfl rfl f3 h3 (Nat.zero_le _) (fun _ => ⟨rfl, fun i hi => absurd hi (Nat.not_lt_zero i), fun i _ _ => rfl⟩) (fun z => by omega)
  · intro μ4 b st v w hv hw f4 h4 hb hst hK
    have eK := hK (Nat.le_refl 31)
    refine vm_r_iload rfl rfl ?_
    refine vm_r_bipush (kI := nI 30) rfl ?_
    first | refine vm_r_icmp_gtN rfl (by omega) (by omega) (fun _ => ?_) (fun hn => absurd hn (by omega)) | refine vm_r_icmp_gt rfl (fun _ => ?_) (fun hn => absurd hn (by omega))
    refine vm_r_vret rfl (⟨rfl, f4.1, ⟨st, h4⟩, by unfold vl0; rw [if_neg (by omega)]; exact f4.2.1, by unfold vl1; rw [if_neg (by omega)]; exact f4.2.2⟩)
  · intro d hd31 ihd μ4 b st v w hv hw f4 h4 hb hst hK
    obtain ⟨rfl, hno, hsd⟩ := hst hd31
    have hm := vl_many h4.2.1
    have hnoX : ∀ i, i < b → ¬ vadm T ((vX T p i).2.1 i) g := fun i hi => by
      rw [← (vX_at (k := b) hi (by omega)).2]
      exact hno i hi
    have hk : ∀ i, b ≤ i → i < (vX T p b).1 → i < (vX T p i).1 ∧ (vX T p i).2.1 i = (vX T p b).2.1 i ∧ (vX T p i).2.2.1 i = (vX T p b).2.2.1 i ∧ (vX T p i).2.2.2 i = d := fun i h1 h2 => by
      have := vX_keep h2 (i - b)
      rw [show b + (i - b) = i by omega] at this
      exact ⟨by omega, this.2.1, this.2.2.1, this.2.2.2.trans (hsd i h1 h2)⟩
    have ht4 := ht.keepx f4.1 (by omega)
    refine vm_r_iload rfl rfl ?_
    refine vm_r_bipush (kI := nI 30) rfl ?_
    first | refine vm_r_icmp_gtN rfl (by omega) (by omega) (fun hn => absurd hn (by omega)) (fun _ => ?_) | refine vm_r_icmp_gt rfl (fun hn => absurd hn (by omega)) (fun _ => ?_)
    refine vm_r_aload_n rfl rfl rfl ?_
    refine vm_r_getI rfl (h4.g2) ?_
    refine vm_r_istore6 rfl rfl ?_
    refine vm_r_iload rfl rfl ?_
    refine vm_r_istore7 rfl rfl ?_
    refine vm_up (P := fun i => b ≤ i → (∀ j, b ≤ j → j < i → ¬ vadm T ((vX T p b).2.1 j) g) → vm_W E (vm_Ex E 5) k_LS_run _ (50, [.ref l, .ref t, .int (nI p), .int (nI g), .int (nI b), .int (nI d), .int (nI (vX T p b).1), .int (nI i)], [], 0, 0, μ4)) (N := (vX T p b).1) ?_ ?_ b hb (Nat.le_refl b) (fun j h1 h2 => by omega)
    · intro _ hno2
      have hnoA : ∀ i, i < (vX T p b).1 → ¬ vadm T ((vX T p i).2.1 i) g := fun i hi => by
        rcases Nat.lt_or_ge i b with z | z
        · exact hnoX i z
        · rw [(hk i z hi).2.1]
          exact hno2 i z hi
      refine vm_r_iload rfl rfl ?_
      refine vm_r_iload rfl rfl ?_
      first | refine vm_r_icmp_geN rfl (by omega) (by omega) (fun _ => ?_) (fun hn => absurd hn (by omega)) | refine vm_r_icmp_ge rfl (fun _ => ?_) (fun hn => absurd hn (by omega))
      refine vm_r_iload rfl rfl ?_
      refine vm_r_istore7 rfl rfl ?_
      refine vm_up (P := fun i => b ≤ i → ∀ (μ5 : vm_M) (st : vl_T), (vx μ μ5 l (l + 2) ∧ μ5.2.1 l 3 = -4 ∧ μ5.2.1 l 4 = -4) → vL μ5 l st → (vX T p b).1 ≤ st.1 → (d < 30 → st = vX T p i ∧ ∀ j, (vX T p b).1 ≤ j → j < st.1 → st.2.2.2 j = d + 1) →
        vm_W E (vm_Ex E 5) k_LS_run _ (115, [.ref l, .ref t, .int (nI p), .int (nI g), .int (nI b), .int (nI d), .int (nI (vX T p b).1), .int (nI i)], [], 0, 0, μ5)) (N := (vX T p b).1) ?_ ?_ b hb (Nat.le_refl b) μ4 _ f4 h4 (Nat.le_refl _) (fun _ => ⟨rfl, fun j h1 h2 => by omega⟩)
      · intro _ μ5 st f5 h5 hl5 hst5
        refine vm_r_iload rfl rfl ?_
        refine vm_r_iload rfl rfl ?_
        first | refine vm_r_icmp_geN rfl (by omega) (by omega) (fun _ => ?_) (fun hn => absurd hn (by omega)) | refine vm_r_icmp_ge rfl (fun _ => ?_) (fun hn => absurd hn (by omega))
        refine vm_r_iload rfl rfl ?_
        refine vm_r_istore4 rfl rfl ?_
        first | refine vm_r_iinc5N (y := 1) rfl rfl ?_ | refine vm_r_iinc5 rfl rfl ?_
        refine vm_r_goto rfl ?_
        refine ihd μ5 _ st _ _ rfl rfl f5 h5 hl5 (fun z => ?_) (fun z => ?_)
        · obtain ⟨rfl, hs5⟩ := hst5 (by omega)
          refine ⟨rfl, fun i hi => ?_, hs5⟩
          rw [(vX_at hi (by omega)).2]
          exact hnoA i hi
        · have hsame := vX_same (T := T) (p := p) (b := b) (fun i h1 h2 => by rw [hsd i h1 h2]; omega) ((vX T p b).1 - b)
          rw [show b + ((vX T p b).1 - b) = (vX T p b).1 by omega] at hsame
          exact vlK_no (k := (vX T p b).1) (by rw [hsame]; exact Nat.le_refl _) hnoA
      · intro i hi ih hbi μ5 st f5 h5 hl5 hst5
        have ht5 := ht.keepx f5.1 (by omega)
        have hqi := h5.2.1.1 i (by omega)
        have step : ∀ (f : Nat) (pf : Nat → Nat), (f = 1 ∧ pf = fun q => q) ∨ (f = 0 ∧ pf = fun _ => st.2.2.1 i) → (d < 30 → pf = fun q => if d = 0 then q else st.2.2.1 i) → vm_W E (vm_Ex E 5) k_LS_run (vm_PV (fun μ' => vx μ μ' l (l + 2) ∧ (∃ st', vL μ' l st') ∧ μ'.2.1 l 3 = vl0 T p g ∧ μ'.2.1 l 4 = vl1 T p g)) (142, [.ref l, .ref t, .int (nI p), .int (nI g), .int (nI b), .int (nI d), .int (nI (vX T p b).1), .int (nI i)], [.int (nI f), .int (nI (st.2.1 i * 8 + st.2.2.1 i)), .int (nI p), .ref t, .ref l], 0, 0, μ5) := by
          intro f pf hf hpf
          refine vm_r_cv5V rfl (by decide) (h5.ob) (Nat.le_of_ble_eq_true rfl) (vm_Ex_le (by first | exact Nat.le_of_ble_eq_true rfl | omega) (c_LS_goOn (sp := d + 1) h5 ht5 hd hp hqi.1 hqi.2 hf)) (fun μ6 q6 => ?_)
          first | refine vm_r_iinc7N (y := 1) rfl rfl ?_ | refine vm_r_iinc7 rfl rfl ?_
          refine vm_r_goto rfl ?_
          obtain ⟨⟨x6, k6⟩, h6⟩ := q6
          have hext := xq_ext (T := T) (p := p) (c := st.2.1 i) (pf := pf) (sp := d + 1) (st := st) (tP T)
          refine ih (by omega) μ6 _ ⟨f5.1.tr x6, by rw [k6 3 (by decide)]; exact f5.2.1, by rw [k6 4 (by decide)]; exact f5.2.2⟩ h6 (Nat.le_trans hl5 hext.1) (fun z => ?_)
          obtain ⟨rfl, hs5⟩ := hst5 z
          obtain ⟨k1, k2, k3, k4⟩ := hk i hbi hi
          refine ⟨?_, fun j h1 h2 => ?_⟩
          · rw [vX_s T p i, if_pos ⟨k1, by omega⟩, k4, hpf z]
          · rcases Nat.lt_or_ge j (vX T p i).1 with y | y
            · rw [(hext.2.1 j y).2.2]
              exact hs5 j h1 y
            · exact hext.2.2 j y h2
        refine vm_r_iload rfl rfl ?_
        refine vm_r_iload rfl rfl ?_
        first | refine vm_r_icmp_geN rfl (by omega) (by omega) (fun hn => absurd hn (by omega)) (fun _ => ?_) | refine vm_r_icmp_ge rfl (fun hn => absurd hn (by omega)) (fun _ => ?_)
        refine vm_r_aload_n rfl rfl rfl ?_
        refine vm_r_aload_n rfl rfl rfl ?_
        refine vm_r_iload_n rfl rfl rfl ?_
        refine vm_r_aload_n rfl rfl rfl ?_
        refine vm_r_getR rfl (h5.r0) ?_
        refine vm_r_iload rfl rfl ?_
        refine vm_r_iaload rfl (h5.s1) (by omega) (by omega) (h5.v (by omega)) ?_
        refine vm_r_iload rfl rfl ?_
        first | refine vm_r_if_neB rfl (fun e => ?_) (fun e => ?_) | refine vm_r_if_neN rfl (by omega) (fun e => ?_) (fun e => ?_) | refine vm_r_if_ne rfl (fun e => ?_) (fun e => ?_)
        · refine vm_r_iconst (kI := nI 0) rfl ?_
          exact step 0 _ (Or.inr ⟨rfl, rfl⟩) (fun _ => by rw [show (fun q => if d = 0 then q else st.2.2.1 i) = fun _ => st.2.2.1 i from funext fun q => if_neg (by omega)])
        · refine vm_r_iconst (kI := nI 1) rfl ?_
          refine vm_r_goto rfl ?_
          exact step 1 _ (Or.inl ⟨rfl, rfl⟩) (fun _ => by rw [show (fun q => if d = 0 then q else st.2.2.1 i) = fun q => q from funext fun q => if_pos (by omega)])
    · intro i hi ih hbi hno2
      obtain ⟨hq1, hq2⟩ := h4.2.1.1 i hi
      have hql := hq1.1
      have e8 : ((vX T p b).2.1 i * 8 + (vX T p b).2.2.1 i) / 2 ^ 3 = (vX T p b).2.1 i := by omega
      have e7 : ((vX T p b).2.1 i * 8 + (vX T p b).2.2.1 i) &&& 7 = (vX T p b).2.2.1 i := by
        rw [v_and7]
        omega
      refine vm_r_iload rfl rfl ?_
      refine vm_r_iload rfl rfl ?_
      first | refine vm_r_icmp_geN rfl (by omega) (by omega) (fun hn => absurd hn (by omega)) (fun _ => ?_) | refine vm_r_icmp_ge rfl (fun hn => absurd hn (by omega)) (fun _ => ?_)
      refine vm_r_aload_n rfl rfl rfl ?_
      refine vm_r_aload_n rfl rfl rfl ?_
      refine vm_r_getR rfl (h4.r0) ?_
      refine vm_r_iload rfl rfl ?_
      refine vm_r_iaload rfl (h4.s1) (by omega) (by omega) (h4.v hi) ?_
      refine vm_r_iconst (kI := nI 3) rfl ?_
      refine vm_r_ishrN rfl (by omega) (by omega) ?_
      rw [e8]
      refine vm_r_iload_n rfl rfl rfl ?_
      refine vm_r_cv3I rfl (by decide) (ht4.s.ob) (Nat.le_of_ble_eq_true rfl) (vm_Ex_le (by first | exact Nat.le_of_ble_eq_true rfl | omega) (c_TN_admits ht4 hq1 hg)) ?_
      first | refine vm_r_if_eqB rfl (fun e => ?_) (fun e => ?_) | refine vm_r_if_eqN rfl (by omega) (fun e => ?_) (fun e => ?_) | refine vm_r_if_eq rfl (fun e => ?_) (fun e => ?_)
      · first | refine vm_r_iinc7N (y := 1) rfl rfl ?_ | refine vm_r_iinc7 rfl rfl ?_
        refine vm_r_goto rfl ?_
        refine ih (by omega) fun j h1 h2 => ?_
        rcases Nat.lt_or_ge j i with z | z
        · exact hno2 j h1 z
        · obtain rfl : j = i := by omega
          exact e
      · obtain ⟨k1, k2, k3, k4⟩ := hk i hbi hi
        have eK : vlK T p g = i := vlK_yes ht.ok hp k1 (by rw [k2]; exact e) fun j hj => by
          rcases Nat.lt_or_ge j b with z | z
          · exact hnoX j z
          · rw [(hk j z (by omega)).2.1]
            exact hno2 j z hj
        have r0 : vl0 T p g = nI d := by
          unfold vl0
          rw [eK, if_pos (by omega), k4]
        have h5 := h4.fld (μ' := vm_mI μ4 l 3 (nI d)) (Or.inl rfl) rfl
        have f5 := f4.1.tr (vf.mI (μ := μ4) (lo := l) (hi := l + 2) (o := l) (k := 3) (v := nI d) (by omega) (by omega)).x
        refine vm_r_aload_n rfl rfl rfl ?_
        refine vm_r_iload rfl rfl ?_
        refine vm_r_putI rfl (h4.w3) ?_
        refine vm_r_aload_n rfl rfl rfl ?_
        refine vm_r_iload rfl rfl ?_
        first | refine vm_r_if_neB rfl (fun e2 => ?_) (fun e2 => ?_) | refine vm_r_if_neN rfl (by omega) (fun e2 => ?_) (fun e2 => ?_) | refine vm_r_if_ne rfl (fun e2 => ?_) (fun e2 => ?_)
        · have r1 : vl1 T p g = nI ((vX T p b).2.2.1 i) := by
            unfold vl1
            rw [eK, if_pos (by omega), k4, if_neg (by omega), k3]
          refine vm_r_aload_n rfl rfl rfl ?_
          refine vm_r_getR rfl (h5.r0) ?_
          refine vm_r_iload rfl rfl ?_
          refine vm_r_iaload rfl (h5.s1) (by omega) (by omega) (h5.v hi) ?_
          refine vm_r_bipush (kI := nI 7) rfl ?_
          first | refine vm_r_iandN rfl ?_ | refine vm_r_iand rfl ?_
          refine vm_r_top ((congrArg nI e7)) ?_
          refine vm_r_putI rfl (h5.w4) ?_
          refine vm_r_vret rfl (⟨rfl, f5.tr (vf.mI (by omega) (by omega)).x, ⟨_, h5.fld (Or.inr rfl) rfl⟩, by rw [r0, rI_nk (by decide), rI_eq], by rw [r1, rI_eq]⟩)
        · have r1 : vl1 T p g = -4 := by
            unfold vl1
            rw [eK, if_pos (by omega), k4, if_pos (by omega)]
          refine vm_r_bipush rfl ?_
          refine vm_r_goto rfl ?_
          refine vm_r_putI rfl (h5.w4) ?_
          refine vm_r_vret rfl (⟨rfl, f5.tr (vf.mI (by omega) (by omega)).x, ⟨_, h5.fld (Or.inr rfl) rfl⟩, by rw [r0, rI_nk (by decide), rI_eq], by rw [r1, rI_eq]⟩)
end RUN
