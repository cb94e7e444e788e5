/-! New objects: a shelf; the class itself, empty. -/
theorem vlt.of {μ0 μ μ' : vm_M} {t n t' n' : Nat} (h : vlt μ0 μ t n) (h2 : vlt μ μ' t' n') (e : t ≤ t') : vlt μ0 μ' t n' := ⟨h2.1, fun o ho => by
  obtain ⟨g1, g2, g3, g4⟩ := h.2 o ho
  obtain ⟨k1, k2, k3, k4⟩ := h2.2 o (by omega)
  exact ⟨k1.trans g1, k2.trans g2, k3.trans g3, k4.trans g4⟩⟩
section INI3
variable {E : vm_V} {μ μ0 : vm_M} {q cap : Nat}
theorem c_SH_init (h : vBd μ0 μ q 3 (vm_fl 3) []) (h1 : 1 ≤ cap) (h8 : cap ≤ 8) : vm_Ex E 2 n_SH_init [.ref q, .int (nI cap)] (1 + 6 * cap) (cap + 36 * cap) μ (vm_PV (fun μ' => vlt μ0 μ' q (q + 2 + 6 * cap) ∧ vH μ' q cap (fun j => j) 0 (fun _ => vt0))) := by
  have hmx : (if nI cap < nI 1 then nI 1 else nI cap) = nI cap := if_neg (nI_nlt (by omega) (by omega))
  rw [show 1 + 6 * cap = 6 * cap + 1 by omega, show cap + 36 * cap = 36 * cap + cap by omega]
  refine vm_start (D := 1) (by decide) rfl (Nat.le_of_ble_eq_true rfl) (k := k_SH_init) rfl (L := [.ref q, .int (nI cap), .retAddr 0]) rfl ?_
  refine vm_r_aload_n rfl rfl rfl ?_
  refine vm_r_oinit rfl (Nat.le_of_ble_eq_true rfl) ?_
  refine vm_r_aload_n rfl rfl rfl ?_
  refine vm_r_iload_n rfl rfl rfl ?_
  refine vm_r_iconst (kI := nI 1) rfl ?_
  refine vm_r_max rfl (Nat.le_of_ble_eq_true rfl) ?_
  refine vm_r_top (hmx) ?_
  refine vm_r_anewarray rfl (by omega) ?_
  refine vm_r_putR rfl (h.nt) (rfl) ?_
  have k1 := h.st (s := (4, cap)) (b := 0)
  generalize vm_mS (vm_nw μ (.inr (4, cap))) q _ = ν at *
  refine vm_r_iconst (kI := nI 0) rfl ?_
  refine vm_r_istore_n2 rfl rfl rfl ?_
  have st := vm_up (P := fun i => ∀ (μ' : vm_M), μ'.1 q = some (.inl (3, [some (some (q + 1)), none])) → μ'.1 (q + 1) = some (.inr (4, cap)) → μ'.2.1 q = (fun _ => 0) → vlt μ0 μ' q (q + 2 + 6 * i) → (∀ j, j < i → μ'.2.2.1 (q + 1) j = some (q + 2 + 6 * j) ∧ vt_C μ' (q + 2 + 6 * j) vt0) →
    vm_W E (vm_Ex E 1) k_SH_init (vm_PV (fun μ' => vlt μ0 μ' q (q + 2 + 6 * cap) ∧ vH μ' q cap (fun j => j) 0 (fun _ => vt0))) (18, [.ref q, .int (nI cap), .int (nI i)], [], 6 * (cap - i), 36 * (cap - i), μ')) (N := cap) ?_ ?_ 0 (by omega) ν k1.1 (k1.2.2.1 0 _ rfl).1 k1.2.1 ⟨k1.2.2.2.1, k1.2.2.2.2⟩ (fun j hj => absurd hj (Nat.not_lt_zero j))
  · exact st
  · intro μ' e1 e2 e3 l ha
    refine vm_r_iload_n rfl rfl rfl ?_
    refine vm_r_aload_n rfl rfl rfl ?_
    refine vm_r_getR rfl (⟨_, e1, rfl⟩) ?_
    refine vm_r_alen rfl (e2) (by decide) ?_
    first | refine vm_r_icmp_geN rfl (by omega) (by omega) (fun _ => ?_) (fun hn => absurd hn (by omega)) | refine vm_r_icmp_ge rfl (fun _ => ?_) (fun hn => absurd hn (by omega))
    refine vm_r_vret rfl (⟨rfl, l, ⟨e1, e2⟩, ⟨by omega, by omega, by omega⟩, by rw [e3]; rfl, fun j hj => ⟨(ha j hj).1, hj, (ha j hj).2.s⟩, fun i j _ _ e => e, fun j hj => absurd hj (Nat.not_lt_zero j)⟩)
  · intro i hi ih μ' e1 e2 e3 l ha
    rw [show 6 * (cap - i) = 6 * (cap - (i + 1)) + 5 + 1 by omega, show 36 * (cap - i) = 36 * (cap - (i + 1)) + 27 + 9 by omega]
    have kb : vBd μ' (vm_nw μ' (.inl (4, vm_fl 4))) (q + 2 + 6 * i) 4 (vm_fl 4) [] := vBd.nw l.1
    have en : μ'.2.2.2.2 = q + 2 + 6 * i := l.1
    refine vm_r_iload_n rfl rfl rfl ?_
    refine vm_r_aload_n rfl rfl rfl ?_
    refine vm_r_getR rfl (⟨_, e1, rfl⟩) ?_
    refine vm_r_alen rfl (e2) (by decide) ?_
    first | refine vm_r_icmp_geN rfl (by omega) (by omega) (fun hn => absurd hn (by omega)) (fun _ => ?_) | refine vm_r_icmp_ge rfl (fun hn => absurd hn (by omega)) (fun _ => ?_)
    refine vm_r_aload_n rfl rfl rfl ?_
    refine vm_r_getR rfl (⟨_, e1, rfl⟩) ?_
    refine vm_r_iload_n rfl rfl rfl ?_
    refine vm_r_new rfl ?_
    rw [en]
    refine vm_r_dup rfl rfl ?_
    refine vm_r_cp1V (c := 6 * (cap - (i + 1))) (mc := 5) (d := 36 * (cap - (i + 1))) (ms := 27) rfl (by decide) (Nat.le_of_ble_eq_true rfl) (vm_Ex_le (by first | exact Nat.le_of_ble_eq_true rfl | omega) (c_TN_init kb)) (fun μ2 q2 => ?_)
    obtain ⟨l2, t2⟩ := q2
    have g := l2.2
    have e2' : μ2.1 (q + 1) = some (.inr (4, cap)) := by rw [(g _ (by omega)).1]; exact e2
    refine vm_r_aastore rfl (e2') (by omega) (by omega) (t2.s.ob) ?_
    first | refine vm_r_iinc2N (y := 1) rfl rfl ?_ | refine vm_r_iinc2 rfl rfl ?_
    refine vm_r_goto rfl ?_
    have hx : vx μ2 (vm_mR μ2 (q + 1) i (some (q + 2 + 6 * i))) (q + 1) (q + 1) := vx.mR (Nat.le_refl _) (Nat.le_refl _)
    refine ih _ (by show μ2.1 q = _; rw [(g _ (by omega)).1]; exact e1) e2' (by show μ2.2.1 q = _; rw [(g _ (by omega)).2.1]; exact e3) ⟨l2.1, fun o ho => ?_⟩ (fun j hj => ?_)
    · obtain ⟨g1, g2, g3, g4⟩ := (l.of l2 (by omega)).2 o ho
      exact ⟨g1, g2, ((hx.2.2 o (by omega)).2.1).trans g3, g4⟩
    · by_cases y : j = i
      · subst y
        refine ⟨?_, t2.keepx hx (by omega)⟩
        show vm_u μ2.2.2.1 (q + 1) j _ (q + 1) j = _
        exact (congrFun vm_u_eq j).trans (if_pos rfl)
      · obtain ⟨a1, a2⟩ := ha j (by omega)
        refine ⟨?_, (a2.sm (l2.sm.wd (lo := 0) (by omega) (by omega))).keepx hx (by omega)⟩
        show vm_u μ2.2.2.1 (q + 1) i _ (q + 1) j = _
        rw [(congrFun vm_u_eq j).trans (if_neg y), (g _ (by omega)).2.2.1]
        exact a1
end INI3
