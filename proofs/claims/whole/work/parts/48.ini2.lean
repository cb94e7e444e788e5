/-! New objects: the parts of the class. -/
/-- these cells stay -/
def vsm (μ μ' : vm_M) (lo hi : Nat) : Prop := ∀ o, lo ≤ o → o < hi → μ'.1 o = μ.1 o ∧ μ'.2.1 o = μ.2.1 o ∧ μ'.2.2.1 o = μ.2.2.1 o ∧ μ'.2.2.2.1 o = μ.2.2.2.1 o
theorem vsm.tr {μ μ1 μ2 : vm_M} {lo hi lo' hi' : Nat} (h : vsm μ μ1 lo hi) (h2 : vsm μ1 μ2 lo' hi') (e1 : lo ≤ lo') (e2 : hi' ≤ hi) : vsm μ μ2 lo' hi' := fun o a b => by
  obtain ⟨g1, g2, g3, g4⟩ := h o (by omega) (by omega)
  obtain ⟨k1, k2, k3, k4⟩ := h2 o a b
  exact ⟨k1.trans g1, k2.trans g2, k3.trans g3, k4.trans g4⟩
theorem vsm.tl {μ μ1 μ2 : vm_M} {lo hi lo' hi' : Nat} (h : vsm μ μ1 lo hi) (h2 : vsm μ1 μ2 lo' hi') (e1 : lo' ≤ lo) (e2 : hi ≤ hi') : vsm μ μ2 lo hi := fun o a b => by
  obtain ⟨g1, g2, g3, g4⟩ := h o a b
  obtain ⟨k1, k2, k3, k4⟩ := h2 o (by omega) (by omega)
  exact ⟨k1.trans g1, k2.trans g2, k3.trans g3, k4.trans g4⟩
theorem vsm.wd {μ μ1 : vm_M} {lo hi lo' hi' : Nat} (h : vsm μ μ1 lo hi) (e1 : lo ≤ lo') (e2 : hi' ≤ hi) : vsm μ μ1 lo' hi' := fun o a b => h o (by omega) (by omega)
theorem vlt.sm {μ μ' : vm_M} {t n lo : Nat} (h : vlt μ μ' t n) : vsm μ μ' lo t := fun o _ b => h.2 o b
theorem vsm.mS {μ : vm_M} {x hi : Nat} {s : vm_Sh} : vsm μ (vm_mS μ x s) (x + 1) hi := fun o a b => ⟨vm_set_ne (by omega), rfl, rfl, rfl⟩
theorem vs_T.sm {μ μ' : vm_M} {t : Nat} (h : vs_T μ.1 t) (s : vsm μ μ' t (t + 6)) : vs_T μ'.1 t := by
  obtain ⟨h0, h1, h2, h3, h4, h5⟩ := h
  exact ⟨by rw [(s t (by omega) (by omega)).1]; exact h0, by rw [(s (t + 1) (by omega) (by omega)).1]; exact h1, by rw [(s (t + 2) (by omega) (by omega)).1]; exact h2, by rw [(s (t + 3) (by omega) (by omega)).1]; exact h3, by rw [(s (t + 4) (by omega) (by omega)).1]; exact h4, by rw [(s (t + 5) (by omega) (by omega)).1]; exact h5⟩
theorem vt_C.sm {μ μ' : vm_M} {t : Nat} {T : vt_T} (h : vt_C μ t T) (s : vsm μ μ' t (t + 6)) : vt_C μ' t T := by
  obtain ⟨h1, h2, h3, h4, h5, h6, h7, h8⟩ := h
  refine ⟨vs_T.sm h1 s, h2, by rw [(s t (by omega) (by omega)).2.1]; exact h3, by rw [(s t (by omega) (by omega)).2.1]; exact h4, by rw [(s t (by omega) (by omega)).2.1]; exact h5, by rw [(s t (by omega) (by omega)).2.1]; exact h6, fun g hg => ?_, fun p hp => ?_⟩
  · rw [(s (t + 1) (by omega) (by omega)).2.1, (s (t + 2) (by omega) (by omega)).2.1, (s (t + 3) (by omega) (by omega)).2.1]
    exact h7 g hg
  · rw [(s (t + 4) (by omega) (by omega)).2.1, (s (t + 5) (by omega) (by omega)).2.1]
    exact h8 p hp
theorem vS.sm {μ μ' : vm_M} {t n a : Nat} {x : Nat → Nat} (h : vS μ t x n a) (s : vsm μ μ' t (t + 2)) : vS μ' t x n a := by
  obtain ⟨⟨h1, h1'⟩, h2, h3, h4, h5⟩ := h
  refine ⟨⟨by rw [(s t (by omega) (by omega)).1]; exact h1, by rw [(s (t + 1) (by omega) (by omega)).1]; exact h1'⟩, h2, by rw [(s t (by omega) (by omega)).2.1]; exact h3, by rw [(s t (by omega) (by omega)).2.1]; exact h4, fun j hj => by rw [(s (t + 1) (by omega) (by omega)).2.1]; exact h5 j hj⟩
theorem vW.sm {μ μ' : vm_M} {w : Nat} {W : vw_T} (h : vW μ w W) (s : vsm μ μ' w (w + 6)) : vW μ' w W := by
  obtain ⟨⟨h0, h1, h2, h3, h4, h5⟩, k, e1, e2, e3, e4⟩ := h
  refine ⟨⟨by rw [(s w (by omega) (by omega)).1]; exact h0, by rw [(s (w + 1) (by omega) (by omega)).1]; exact h1, by rw [(s (w + 2) (by omega) (by omega)).1]; exact h2, by rw [(s (w + 3) (by omega) (by omega)).1]; exact h3, by rw [(s (w + 4) (by omega) (by omega)).1]; exact h4, by rw [(s (w + 5) (by omega) (by omega)).1]; exact h5⟩, k, by rw [(s w (by omega) (by omega)).2.1]; exact e1, by rw [(s w (by omega) (by omega)).2.1]; exact e2, fun i hi => ?_, fun i hi => ?_⟩
  · rw [(s (w + 1) (by omega) (by omega)).2.1, (s (w + 2) (by omega) (by omega)).2.1, (s (w + 3) (by omega) (by omega)).2.1]
    exact e3 i hi
  · rw [(s (w + 4) (by omega) (by omega)).2.1, (s (w + 5) (by omega) (by omega)).2.1]
    exact e4 i hi
theorem vBs.sm {μ μ' : vm_M} {b : Nat} (h : vBs μ b) (s : vsm μ μ' b (b + 8)) : vBs μ' b := by
  obtain ⟨⟨h1, h2⟩, h3⟩ := h
  refine ⟨⟨by rw [(s b (by omega) (by omega)).1]; exact h1, by rw [(s (b + 1) (by omega) (by omega)).1]; exact h2⟩, fun j hj => ?_⟩
  rw [(s (b + 2 + j) (by omega) (by omega)).1, (s (b + 1) (by omega) (by omega)).2.2.1]
  exact h3 j hj
theorem vL.sm {μ μ' : vm_M} {l : Nat} {st : vl_T} (h : vL μ l st) (s : vsm μ μ' l (l + 3)) : vL μ' l st := by
  obtain ⟨⟨h1, h2, h3⟩, k, e1, e2, e3⟩ := h
  refine ⟨⟨by rw [(s l (by omega) (by omega)).1]; exact h1, by rw [(s (l + 1) (by omega) (by omega)).1]; exact h2, by rw [(s (l + 2) (by omega) (by omega)).1]; exact h3⟩, k, by rw [(s l (by omega) (by omega)).2.1]; exact e1, fun i hi => by rw [(s (l + 1) (by omega) (by omega)).2.1]; exact e2 i hi, fun c hc => by rw [(s (l + 2) (by omega) (by omega)).2.2.2]; exact e3 c hc⟩
theorem vH.sm {μ μ' : vm_M} {q cap h : Nat} {f : Nat → Nat} {Ts : Nat → vt_T} (a : vH μ q cap f h Ts) (s : vsm μ μ' q (q + 2 + 6 * cap)) : vH μ' q cap f h Ts := by
  obtain ⟨⟨h1, h2⟩, k, e1, e2, e3, e4⟩ := a
  refine ⟨⟨by rw [(s q (by omega) (by omega)).1]; exact h1, by rw [(s (q + 1) (by omega) (by omega)).1]; exact h2⟩, k, by rw [(s q (by omega) (by omega)).2.1]; exact e1, fun j hj => ?_, e3, fun j hj => ?_⟩
  · obtain ⟨g1, g2, g3⟩ := e2 j hj
    refine ⟨?_, g2, vs_T.sm g3 (s.wd (by omega) (by omega))⟩
    rw [(s (q + 1) (by omega) (by omega)).2.2.1]
    exact g1
  · have hl := (e2 j (by omega)).2.1
    exact (e4 j hj).sm (s.wd (by omega) (by omega))
def vw00 : vw_T := (0, fun _ => 0, fun _ => 0, fun _ => 0, 0, fun _ => 0, fun _ => 0)
section INI2
variable {E : vm_V} {μ μ0 : vm_M} {t : Nat}
theorem c_SC_init (h : vBd μ0 μ t 2 (vm_fl 2) []) : vm_Ex E 1 n_SC_init [.ref t] 1 200 μ (vm_PV (fun μ' => vlt μ0 μ' t (t + 2) ∧ vS μ' t (fun _ => 0) 0 0)) := by
  refine vm_start (D := 0) (by decide) rfl (Nat.le_of_ble_eq_true rfl) (k := k_SC_init) rfl (L := [.ref t]) rfl ?_
  refine vm_r_aload_n rfl rfl rfl ?_
  refine vm_r_oinit rfl (Nat.le_of_ble_eq_true rfl) ?_
  refine vm_r_aload_n rfl rfl rfl ?_
  refine vm_r_sipush (kI := nI 200) rfl ?_
  refine vm_r_newarray rfl (by decide) (by omega) ?_
  refine vm_r_putR rfl (h.nt) (rfl) ?_
  have h1 := h.st (s := (1, 200)) (b := 0)
  refine vm_r_vret rfl (⟨rfl, ⟨h1.2.2.2.1, h1.2.2.2.2⟩, ⟨h1.1, (h1.2.2.1 0 _ rfl).1⟩, ⟨by omega, fun j hj => absurd hj (Nat.not_lt_zero j)⟩, by rw [h1.2.1]; rfl, by rw [h1.2.1]; rfl, fun j hj => absurd hj (Nat.not_lt_zero j)⟩)
theorem c_WI_init (h : vBd μ0 μ t 5 (vm_fl 5) []) : vm_Ex E 1 n_WI_init [.ref t] 5 34 μ (vm_PV (fun μ' => vlt μ0 μ' t (t + 6) ∧ vW μ' t vw00)) := by
  refine vm_start (D := 0) (by decide) rfl (Nat.le_of_ble_eq_true rfl) (k := k_WI_init) rfl (L := [.ref t]) rfl ?_
  refine vm_r_aload_n rfl rfl rfl ?_
  refine vm_r_oinit rfl (Nat.le_of_ble_eq_true rfl) ?_
  refine vm_r_aload_n rfl rfl rfl ?_
  refine vm_r_bipush (kI := nI 6) rfl ?_
  refine vm_r_newarray rfl (by decide) (by omega) ?_
  refine vm_r_putR rfl (h.nt) (rfl) ?_
  have h1 := h.st (s := (0, 6)) (b := 0)
  refine vm_r_aload_n rfl rfl rfl ?_
  refine vm_r_bipush (kI := nI 6) rfl ?_
  refine vm_r_newarray rfl (by decide) (by omega) ?_
  refine vm_r_putR rfl (h1.nt) (rfl) ?_
  have h2 := h1.st (s := (0, 6)) (b := 1)
  refine vm_r_aload_n rfl rfl rfl ?_
  refine vm_r_bipush (kI := nI 6) rfl ?_
  refine vm_r_newarray rfl (by decide) (by omega) ?_
  refine vm_r_putR rfl (h2.nt) (rfl) ?_
  have h3 := h2.st (s := (2, 6)) (b := 2)
  refine vm_r_aload_n rfl rfl rfl ?_
  refine vm_r_bipush (kI := nI 8) rfl ?_
  refine vm_r_newarray rfl (by decide) (by omega) ?_
  refine vm_r_putR rfl (h3.nt) (rfl) ?_
  have h4 := h3.st (s := (0, 8)) (b := 3)
  refine vm_r_aload_n rfl rfl rfl ?_
  refine vm_r_bipush (kI := nI 8) rfl ?_
  refine vm_r_newarray rfl (by decide) (by omega) ?_
  refine vm_r_putR rfl (h4.nt) (rfl) ?_
  have h5 := h4.st (s := (0, 8)) (b := 4)
  refine vm_r_vret rfl (⟨rfl, ⟨h5.2.2.2.1, h5.2.2.2.2⟩, ⟨h5.1, (h5.2.2.1 0 _ rfl).1, (h5.2.2.1 1 _ rfl).1, (h5.2.2.1 2 _ rfl).1, (h5.2.2.1 3 _ rfl).1, (h5.2.2.1 4 _ rfl).1⟩, ⟨by decide, by decide, fun i hi => absurd hi (Nat.not_lt_zero i), fun i hi => absurd hi (Nat.not_lt_zero i)⟩, by rw [h5.2.1]; rfl, by rw [h5.2.1]; rfl, fun i hi => absurd hi (Nat.not_lt_zero i), fun i hi => absurd hi (Nat.not_lt_zero i)⟩)
theorem c_LS_init (h : vBd μ0 μ t 1 (vm_fl 1) []) : vm_Ex E 1 n_LS_init [.ref t] 2 8288 μ (vm_PV (fun μ' => vlt μ0 μ' t (t + 3) ∧ ∃ st, vL μ' t st)) := by
  refine vm_start (D := 0) (by decide) rfl (Nat.le_of_ble_eq_true rfl) (k := k_LS_init) rfl (L := [.ref t]) rfl ?_
  refine vm_r_aload_n rfl rfl rfl ?_
  refine vm_r_oinit rfl (Nat.le_of_ble_eq_true rfl) ?_
  refine vm_r_aload_n rfl rfl rfl ?_
  refine vm_r_sipush (kI := nI 7776) rfl ?_
  refine vm_r_newarray rfl (by decide) (by omega) ?_
  refine vm_r_putR rfl (h.nt) (rfl) ?_
  have h1 := h.st (s := (0, 7776)) (b := 0)
  refine vm_r_aload_n rfl rfl rfl ?_
  refine vm_r_sipush (kI := nI 512) rfl ?_
  refine vm_r_newarray rfl (by decide) (by omega) ?_
  refine vm_r_putR rfl (h1.nt) (rfl) ?_
  have h2 := h1.st (s := (3, 512)) (b := 1)
  refine vm_r_vret rfl (⟨rfl, ⟨h2.2.2.2.1, h2.2.2.2.2⟩, (0, fun _ => 0, fun _ => 0, fun _ => 0), ⟨h2.1, (h2.2.2.1 0 _ rfl).1, (h2.2.2.1 1 _ rfl).1⟩, ⟨fun i hi => absurd hi (Nat.not_lt_zero i), fun i j _ hj => absurd hj (Nat.not_lt_zero j)⟩, by rw [h2.2.1]; rfl, fun i hi => absurd hi (Nat.not_lt_zero i), fun c hc => ?_⟩)
  have e := (h2.2.2.1 1 (3, 512) rfl).2.2
  have e : (vm_mS (vm_nw (vm_mS (vm_nw μ (.inr (0, 7776))) t _) (.inr (3, 512))) t _).2.2.2.1 (t + 2) = fun _ => 0 := e
  rw [e]
  show (0 : Int64).toBitVec.getLsbD (c % 64) = false
  exact BitVec.getLsbD_zero
theorem c_BS_init (h : vBd μ0 μ t 0 (vm_fl 0) []) : vm_Ex E 1 n_BS_init [.ref t] 7 36 μ (vm_PV (fun μ' => vlt μ0 μ' t (t + 8) ∧ vBs μ' t ∧ ∀ g, g < 5 → μ'.2.1 (t + 2) g = 0)) := by
  have hn : μ.2.2.2.2 = t + 1 := h.2.2.2.1
  have hf := h.2.2.2.2
  have e1 : (vm_nw2 μ 6 5).1 t = some (.inl (0, vm_fl 0)) := by
    show (if t = μ.2.2.2.2 then _ else if _ then _ else μ.1 t) = _
    rw [if_neg (by omega), if_neg (by omega)]
    exact h.1
  refine vm_start (D := 0) (by decide) rfl (Nat.le_of_ble_eq_true rfl) (k := k_BS_init) rfl (L := [.ref t]) rfl ?_
  refine vm_r_aload_n rfl rfl rfl ?_
  refine vm_r_oinit rfl (Nat.le_of_ble_eq_true rfl) ?_
  refine vm_r_aload_n rfl rfl rfl ?_
  refine vm_r_bipush (kI := nI 6) rfl ?_
  refine vm_r_iconst (kI := nI 5) rfl ?_
  refine vm_r_multi rfl (by omega) (by omega) ?_
  refine vm_r_putR rfl (e1) (rfl) ?_
  refine vm_r_vret rfl (⟨rfl, ⟨?_, fun o ho => ?_⟩, ⟨⟨?_, ?_⟩, fun j hj => ⟨?_, ?_⟩⟩, fun g hg => ?_⟩)
  · show μ.2.2.2.2 + 1 + 6 = _
    rw [hn]
  · obtain ⟨g1, g2, g3, g4⟩ := hf o ho
    refine ⟨?_, ?_, ?_, g4⟩
    · show vm_set (vm_nw2 μ 6 5).1 t _ o = _
      rw [vm_set_ne (by omega)]
      show (if o = μ.2.2.2.2 then _ else if _ then _ else μ.1 o) = _
      rw [if_neg (by omega), if_neg (by omega)]
      exact g1
    · show (if _ then _ else μ.2.1 o) = _
      rw [if_neg (by omega)]
      exact g2
    · show (if _ then _ else μ.2.2.1 o) = _
      rw [if_neg (by omega)]
      exact g3
  · show vm_set (vm_nw2 μ 6 5).1 t _ t = _
    rw [vm_set_eq, hn]
    rfl
  · show vm_set (vm_nw2 μ 6 5).1 t _ (t + 1) = _
    rw [vm_set_ne (by omega)]
    show (if t + 1 = μ.2.2.2.2 then _ else if _ then _ else μ.1 (t + 1)) = _
    rw [if_pos hn.symm]
  · show vm_set (vm_nw2 μ 6 5).1 t _ (t + 2 + j) = _
    rw [vm_set_ne (by omega)]
    show (if t + 2 + j = μ.2.2.2.2 then _ else if _ then _ else μ.1 (t + 2 + j)) = _
    rw [if_neg (by omega), if_pos (by omega)]
  · show (if t + 1 = μ.2.2.2.2 then (fun i => if i < 6 then some (μ.2.2.2.2 + 1 + i) else none) else μ.2.2.1 (t + 1)) j = _
    rw [if_pos hn.symm]
    show (if j < 6 then some (μ.2.2.2.2 + 1 + j) else none) = _
    rw [if_pos hj, hn]
  · show (if μ.2.2.2.2 ≤ t + 2 ∧ t + 2 ≤ μ.2.2.2.2 + 6 then (fun _ => 0) else μ.2.1 (t + 2)) g = 0
    rw [if_pos (by omega)]
end INI2
