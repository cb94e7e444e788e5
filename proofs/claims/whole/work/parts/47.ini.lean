/-! New objects. -/
/-- an object whose rows are laid one by one behind it -/
def vBd (μ0 μ : vm_M) (t a : Nat) (fl : List (Option (Option Nat))) (ars : List (Nat × Nat)) : Prop := μ.1 t = some (.inl (a, fl)) ∧ μ.2.1 t = (fun _ => 0) ∧
  (∀ j s, ars[j]? = some s → μ.1 (t + 1 + j) = some (.inr s) ∧ μ.2.1 (t + 1 + j) = (fun _ => 0) ∧ μ.2.2.2.1 (t + 1 + j) = (fun _ => 0)) ∧ μ.2.2.2.2 = t + 1 + ars.length ∧
  ∀ o, o < t → μ.1 o = μ0.1 o ∧ μ.2.1 o = μ0.2.1 o ∧ μ.2.2.1 o = μ0.2.2.1 o ∧ μ.2.2.2.1 o = μ0.2.2.2.1 o
theorem vm_set_eq' {α : Type} {f : Nat → α} {o x : Nat} {v : α} (h : x = o) : vm_set f o v x = v := by
  subst h
  exact vm_set_eq
section INI
variable {E : vm_V} {μ μ0 : vm_M} {t a : Nat} {fl : List (Option (Option Nat))} {ars : List (Nat × Nat)}
theorem vBd.nt {s : vm_Sh} (h : vBd μ0 μ t a fl ars) : (vm_nw μ s).1 t = some (.inl (a, fl)) := by
  show vm_set μ.1 μ.2.2.2.2 (some s) t = _
  rw [vm_set_ne (by rw [h.2.2.2.1]; omega)]
  exact h.1
theorem vBd.st {s : Nat × Nat} {b : Nat} (h : vBd μ0 μ t a fl ars) : vBd μ0 (vm_mS (vm_nw μ (.inr s)) t (.inl (a, fl.set b (some (some μ.2.2.2.2))))) t a (fl.set b (some (some (t + 1 + ars.length)))) (ars ++ [s]) := by
  obtain ⟨h1, h2, h3, h4, h5⟩ := h
  refine ⟨?_, ?_, fun j s' hj => ?_, ?_, fun o ho => ?_⟩
  · show vm_set _ t _ t = _
    rw [vm_set_eq, h4]
  · show vm_set μ.2.1 μ.2.2.2.2 _ t = _
    rw [vm_set_ne (by rw [h4]; omega)]
    exact h2
  · rcases Nat.lt_or_ge j ars.length with y | y
    · rw [List.getElem?_append_left y] at hj
      obtain ⟨g1, g2, g3⟩ := h3 j s' hj
      refine ⟨?_, ?_, ?_⟩
      · show vm_set (vm_set μ.1 μ.2.2.2.2 _) t _ (t + 1 + j) = _
        rw [vm_set_ne (by omega), vm_set_ne (by rw [h4]; omega)]
        exact g1
      · show vm_set μ.2.1 μ.2.2.2.2 _ (t + 1 + j) = _
        rw [vm_set_ne (by rw [h4]; omega)]
        exact g2
      · show vm_set μ.2.2.2.1 μ.2.2.2.2 _ (t + 1 + j) = _
        rw [vm_set_ne (by rw [h4]; omega)]
        exact g3
    · have hl : j < (ars ++ [s]).length := (List.getElem?_eq_some_iff.mp hj).1
      rw [List.length_append] at hl
      have hl : j < ars.length + 1 := hl
      obtain rfl : j = ars.length := by omega
      rw [List.getElem?_append_right (Nat.le_refl _), Nat.sub_self] at hj
      have hs : s = s' := Option.some.inj hj
      subst hs
      refine ⟨?_, ?_, ?_⟩
      · show vm_set (vm_set μ.1 μ.2.2.2.2 _) t _ (t + 1 + ars.length) = _
        rw [vm_set_ne (by omega), vm_set_eq' h4.symm]
      · show vm_set μ.2.1 μ.2.2.2.2 _ (t + 1 + ars.length) = _
        rw [vm_set_eq' h4.symm]
      · show vm_set μ.2.2.2.1 μ.2.2.2.2 _ (t + 1 + ars.length) = _
        rw [vm_set_eq' h4.symm]
  · show μ.2.2.2.2 + 1 = _
    rw [h4, List.length_append]
    rfl
  · obtain ⟨g1, g2, g3, g4⟩ := h5 o ho
    refine ⟨?_, ?_, ?_, ?_⟩
    · show vm_set (vm_set μ.1 μ.2.2.2.2 _) t _ o = _
      rw [vm_set_ne (by omega), vm_set_ne (by rw [h4]; omega)]
      exact g1
    · show vm_set μ.2.1 μ.2.2.2.2 _ o = _
      rw [vm_set_ne (by rw [h4]; omega)]
      exact g2
    · show vm_set μ.2.2.1 μ.2.2.2.2 _ o = _
      rw [vm_set_ne (by rw [h4]; omega)]
      exact g3
    · show vm_set μ.2.2.2.1 μ.2.2.2.2 _ o = _
      rw [vm_set_ne (by rw [h4]; omega)]
      exact g4
/-- a new object -/
theorem vBd.nw (ha : μ.2.2.2.2 = t) : vBd μ (vm_nw μ (.inl (a, fl))) t a fl [] := by
  subst ha
  refine ⟨vm_set_eq, vm_set_eq, fun j s hj => by simp at hj, rfl, fun o ho => ?_⟩
  have hne : o ≠ μ.2.2.2.2 := by omega
  exact ⟨vm_set_ne hne, vm_set_ne hne, vm_set_ne hne, vm_set_ne hne⟩
/-- cells below stay; so far new ones reach -/
def vlt (μ μ' : vm_M) (t n : Nat) : Prop := μ'.2.2.2.2 = n ∧ ∀ o, o < t → μ'.1 o = μ.1 o ∧ μ'.2.1 o = μ.2.1 o ∧ μ'.2.2.1 o = μ.2.2.1 o ∧ μ'.2.2.2.1 o = μ.2.2.2.1 o
theorem c_TN_init (h : vBd μ0 μ t 4 (vm_fl 4) []) : vm_Ex E 1 n_TN_init [.ref t] 5 27 μ (vm_PV (fun μ' => vlt μ0 μ' t (t + 6) ∧ vt_C μ' t vt0)) := by
  refine vm_start (D := 0) (by decide) rfl (Nat.le_of_ble_eq_true rfl) (k := k_TN_init) rfl (L := [.ref t]) rfl ?_
  refine vm_r_aload_n rfl rfl rfl ?_
  refine vm_r_oinit rfl (Nat.le_of_ble_eq_true rfl) ?_
  refine vm_r_aload_n rfl rfl rfl ?_
  refine vm_r_iconst (kI := nI 5) rfl ?_
  refine vm_r_newarray rfl (by decide) (by omega) ?_
  refine vm_r_putR rfl (h.nt) (rfl) ?_
  have h1 := h.st (s := (0, 5)) (b := 0)
  refine vm_r_aload_n rfl rfl rfl ?_
  refine vm_r_iconst (kI := nI 5) rfl ?_
  refine vm_r_newarray rfl (by decide) (by omega) ?_
  refine vm_r_putR rfl (h1.nt) (rfl) ?_
  have h2 := h1.st (s := (0, 5)) (b := 1)
  refine vm_r_aload_n rfl rfl rfl ?_
  refine vm_r_iconst (kI := nI 5) rfl ?_
  refine vm_r_newarray rfl (by decide) (by omega) ?_
  refine vm_r_putR rfl (h2.nt) (rfl) ?_
  have h3 := h2.st (s := (0, 5)) (b := 2)
  refine vm_r_aload_n rfl rfl rfl ?_
  refine vm_r_bipush (kI := nI 6) rfl ?_
  refine vm_r_newarray rfl (by decide) (by omega) ?_
  refine vm_r_putR rfl (h3.nt) (rfl) ?_
  have h4 := h3.st (s := (0, 6)) (b := 3)
  refine vm_r_aload_n rfl rfl rfl ?_
  refine vm_r_bipush (kI := nI 6) rfl ?_
  refine vm_r_newarray rfl (by decide) (by omega) ?_
  refine vm_r_putR rfl (h4.nt) (rfl) ?_
  have h5 := h4.st (s := (0, 6)) (b := 4)
  refine vm_r_vret rfl (⟨rfl, ⟨h5.2.2.2.1, h5.2.2.2.2⟩, ⟨h5.1, (h5.2.2.1 0 _ rfl).1, (h5.2.2.1 1 _ rfl).1, (h5.2.2.1 2 _ rfl).1, (h5.2.2.1 3 _ rfl).1, (h5.2.2.1 4 _ rfl).1⟩, vt0_ok, ?_⟩)
  rw [show ∀ I : Nat → Nat → Int32, vt_I I t vt0 = vt_I I t vt0 from fun _ => rfl]
  refine vt_I.mk ?_ ?_ ?_ ?_ ?_ ?_ ?_ ?_ ?_
  · rw [h5.2.1]
    rfl
  · rw [h5.2.1]
    rfl
  · rw [h5.2.1]
    rfl
  · rw [h5.2.1]
    rfl
  all_goals exact fun g hg => absurd hg (Nat.not_lt_zero g)
end INI
