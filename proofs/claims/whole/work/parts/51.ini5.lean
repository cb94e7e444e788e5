/-! New objects: the model. -/
theorem vXS.sm {μ μ' : vm_M} {x : Nat} {z : vZ} (h : vXS μ x z) (s : vsm μ μ' x (x + 96)) : vXS μ' x z := by
  obtain ⟨h1, ⟨a, h2⟩, h3, h4, ⟨f5, h5⟩, ⟨f6, h6⟩, h7, ⟨h8, h8'⟩, ⟨st, h9⟩⟩ := h
  exact ⟨by rw [(s x (by omega) (by omega)).1]; exact h1, ⟨a, h2.sm (s.wd (by omega) (by omega))⟩, h3.sm (s.wd (by omega) (by omega)), vs_T.sm h4 (s.wd (by omega) (by omega)), ⟨f5, h5.sm (s.wd (by omega) (by omega))⟩, ⟨f6, h6.sm (s.wd (by omega) (by omega))⟩, h7.sm (s.wd (by omega) (by omega)), ⟨h8.sm (s.wd (by omega) (by omega)), fun g hg => by rw [(s (x + 87) (by omega) (by omega)).2.1]; exact h8' g hg⟩, ⟨st, h9.sm (s.wd (by omega) (by omega))⟩⟩
theorem vx.sm {μ μ' : vm_M} {lo hi a b : Nat} (h : vx μ μ' lo hi) (e : b ≤ lo ∨ hi < a) : vsm μ μ' a b := fun o h1 h2 => by
  obtain ⟨g1, g2, g3⟩ := h.2.2 o (by omega)
  exact ⟨by rw [h.1], g1, g2, g3⟩
theorem v_oks : (vok 18056 ∧ vok 1675 ∧ vok 23360 ∧ vok 5329) ∧ vok 14024 ∧ vok 45 ∧ vok 18576 ∧ vok 8843 := ⟨⟨⟨by decide, by decide⟩, ⟨by decide, by decide⟩, ⟨by decide, by decide⟩, ⟨by decide, by decide⟩⟩, ⟨by decide, by decide⟩, ⟨by decide, by decide⟩, ⟨by decide, by decide⟩, ⟨by decide, by decide⟩⟩
section INI5
variable {E : vm_V} {μ μ0 : vm_M} {m : Nat}
set_option maxRecDepth 4000 in
theorem c_M_init (h : vBd μ0 μ m 7 (vm_fl 7) []) : vm_Ex E 3 n_M_init [.ref m] 15 24412 μ (vm_PV (fun μ' => vsm μ0 μ' 0 m ∧ vM μ' m vz0)) := by
  refine vm_start (D := 2) (by decide) rfl (Nat.le_of_ble_eq_true rfl) (k := k_M_init) rfl (L := [.ref m]) rfl ?_
  refine vm_r_aload_n rfl rfl rfl ?_
  refine vm_r_oinit rfl (Nat.le_of_ble_eq_true rfl) ?_
  refine vm_r_aload_n rfl rfl rfl ?_
  refine vm_r_sipush (kI := nI 200) rfl ?_
  refine vm_r_newarray rfl (by decide) (by omega) ?_
  refine vm_r_putR rfl (h.nt) (rfl) ?_
  have h1 := h.st (s := (0, 200)) (b := 1)
  generalize vm_mS (vm_nw μ (.inr (0, 200))) m _ = ν1 at *
  refine vm_r_aload_n rfl rfl rfl ?_
  refine vm_r_bipush (kI := nI 12) rfl ?_
  refine vm_r_newarray rfl (by decide) (by omega) ?_
  refine vm_r_putR rfl (h1.nt) (rfl) ?_
  have h2 := h1.st (s := (0, 12)) (b := 2)
  generalize vm_mS (vm_nw ν1 (.inr (0, 12))) m _ = ν2 at *
  refine vm_r_aload_n rfl rfl rfl ?_
  refine vm_r_bipush (kI := nI 12) rfl ?_
  refine vm_r_newarray rfl (by decide) (by omega) ?_
  refine vm_r_putR rfl (h2.nt) (rfl) ?_
  have h3 := h2.st (s := (0, 12)) (b := 3)
  generalize vm_mS (vm_nw ν2 (.inr (0, 12))) m _ = ν3 at *
  refine vm_r_aload_n rfl rfl rfl ?_
  refine vm_r_bipush (kI := nI 63) rfl ?_
  refine vm_r_newarray rfl (by decide) (by omega) ?_
  refine vm_r_putR rfl (h3.nt) (rfl) ?_
  have h4 := h3.st (s := (0, 63)) (b := 4)
  generalize vm_mS (vm_nw ν3 (.inr (0, 63))) m _ = ν4 at *
  refine vm_r_aload_n rfl rfl rfl ?_
  refine vm_r_bipush (kI := nI 63) rfl ?_
  refine vm_r_newarray rfl (by decide) (by omega) ?_
  refine vm_r_putR rfl (h4.nt) (rfl) ?_
  have h5 := h4.st (s := (0, 63)) (b := 5)
  generalize vm_mS (vm_nw ν4 (.inr (0, 63))) m _ = ν5 at *
  refine vm_r_aload_n rfl rfl rfl ?_
  refine vm_r_bipush (kI := nI 63) rfl ?_
  refine vm_r_newarray rfl (by decide) (by omega) ?_
  refine vm_r_putR rfl (h5.nt) (rfl) ?_
  have h6 := h5.st (s := (0, 63)) (b := 6)
  generalize vm_mS (vm_nw ν5 (.inr (0, 63))) m _ = ν6 at *
  refine vm_r_aload_n rfl rfl rfl ?_
  refine vm_r_sipush (kI := nI 504) rfl ?_
  refine vm_r_newarray rfl (by decide) (by omega) ?_
  refine vm_r_putR rfl (h6.nt) (rfl) ?_
  have h7 := h6.st (s := (0, 504)) (b := 7)
  generalize vm_mS (vm_nw ν6 (.inr (0, 504))) m _ = ν7 at *
  refine vm_r_aload_n rfl rfl rfl ?_
  refine vm_r_bipush (kI := nI 126) rfl ?_
  refine vm_r_newarray rfl (by decide) (by omega) ?_
  refine vm_r_putR rfl (h7.nt) (rfl) ?_
  have h8 := h7.st (s := (0, 126)) (b := 9)
  generalize vm_mS (vm_nw ν7 (.inr (0, 126))) m _ = ν8 at *
  refine vm_r_aload_n rfl rfl rfl ?_
  refine vm_r_bipush (kI := nI 18) rfl ?_
  refine vm_r_newarray rfl (by decide) (by omega) ?_
  refine vm_r_putR rfl (h8.nt) (rfl) ?_
  have h9 := h8.st (s := (0, 18)) (b := 11)
  generalize vm_mS (vm_nw ν8 (.inr (0, 18))) m _ = ν9 at *
  refine vm_r_aload_n rfl rfl rfl ?_
  refine vm_r_bipush (kI := nI 16) rfl ?_
  refine vm_r_newarray rfl (by decide) (by omega) ?_
  refine vm_r_putR rfl (h9.nt) (rfl) ?_
  have h10 := h9.st (s := (0, 16)) (b := 13)
  generalize vm_mS (vm_nw ν9 (.inr (0, 16))) m _ = ν10 at *
  refine vm_r_aload_n rfl rfl rfl ?_
  refine vm_r_iconst (kI := nI 2) rfl ?_
  refine vm_r_newarray rfl (by decide) (by omega) ?_
  refine vm_r_putR rfl (h10.nt) (rfl) ?_
  have h11 := h10.st (s := (0, 2)) (b := 16)
  generalize vm_mS (vm_nw ν10 (.inr (0, 2))) m _ = ν11 at *
  refine vm_r_aload_n rfl rfl rfl ?_
  refine vm_r_iconst (kI := nI 5) rfl ?_
  refine vm_r_newarray rfl (by decide) (by omega) ?_
  refine vm_r_putR rfl (h11.nt) (rfl) ?_
  have h12 := h11.st (s := (0, 5)) (b := 18)
  generalize vm_mS (vm_nw ν11 (.inr (0, 5))) m _ = ν12 at *
  refine vm_r_aload_n rfl rfl rfl ?_
  refine vm_r_sipush (kI := nI 7776) rfl ?_
  refine vm_r_newarray rfl (by decide) (by omega) ?_
  refine vm_r_putR rfl (h12.nt) (rfl) ?_
  have h13 := h12.st (s := (0, 7776)) (b := 19)
  generalize vm_mS (vm_nw ν12 (.inr (0, 7776))) m _ = ν13 at *
  refine vm_r_aload_n rfl rfl rfl ?_
  refine vm_r_sipush (kI := nI 7776) rfl ?_
  refine vm_r_newarray rfl (by decide) (by omega) ?_
  refine vm_r_putR rfl (h13.nt) (rfl) ?_
  have h14 := h13.st (s := (0, 7776)) (b := 20)
  generalize vm_mS (vm_nw ν13 (.inr (0, 7776))) m _ = ν14 at *
  refine vm_r_aload_n rfl rfl rfl ?_
  refine vm_r_sipush (kI := nI 7776) rfl ?_
  refine vm_r_newarray rfl (by decide) (by omega) ?_
  refine vm_r_putR rfl (h14.nt) (rfl) ?_
  have h15 := h14.st (s := (0, 7776)) (b := 21)
  generalize vm_mS (vm_nw ν14 (.inr (0, 7776))) m _ = ν15 at *
  have hh : vMh ν15.1 m := ⟨h15.1, (h15.2.2.1 0 _ rfl).1, (h15.2.2.1 1 _ rfl).1, (h15.2.2.1 2 _ rfl).1, (h15.2.2.1 3 _ rfl).1, (h15.2.2.1 4 _ rfl).1, (h15.2.2.1 5 _ rfl).1, (h15.2.2.1 6 _ rfl).1, (h15.2.2.1 7 _ rfl).1, (h15.2.2.1 8 _ rfl).1, (h15.2.2.1 9 _ rfl).1, (h15.2.2.1 10 _ rfl).1, (h15.2.2.1 11 _ rfl).1, (h15.2.2.1 12 _ rfl).1, (h15.2.2.1 13 _ rfl).1, (h15.2.2.1 14 _ rfl).1⟩
  have hz : ν15.2.1 m 0 = nI 0 := by rw [h15.2.1]; rfl
  have h0 : vsm μ0 ν15 0 m := fun o _ b => h15.2.2.2.2 o b
  obtain ⟨⟨o0, o1, o2, o3⟩, p0, p1, p2, p3⟩ := v_oks
  refine vm_r_aload_n rfl rfl rfl ?_
  refine vm_r_cv1V rfl (by decide) (hh.ob) (Nat.le_of_ble_eq_true rfl) (vm_Ex_le (by first | exact Nat.le_of_ble_eq_true rfl | omega) (c_M_empty hh)) (fun μ1 q1 => ?_)
  obtain ⟨f1, r1⟩ := q1
  have hh1 : vMh μ1.1 m := by rw [f1.1]; exact hh
  refine vm_r_aload_n rfl rfl rfl ?_
  refine vm_r_iconst (kI := nI 0) rfl ?_
  refine vm_r_iconst (kI := nI 4) rfl ?_
  refine vm_r_sipush (kI := nI 1234) rfl ?_
  refine vm_r_cv4V rfl (by decide) (hh1.ob) (Nat.le_of_ble_eq_true rfl) (vm_Ex_le (by first | exact Nat.le_of_ble_eq_true rfl | omega) (c_M_gateIs (kd := 0) (er := 4) (F := 1234) (c := 18056) hh1 r1 (by decide) (by decide) (by decide) (by decide) o0 (by decide))) (fun μ2 q2 => ?_)
  obtain ⟨f2, r2⟩ := q2
  have hh2 : vMh μ2.1 m := by rw [f2.1]; exact hh1
  refine vm_r_aload_n rfl rfl rfl ?_
  refine vm_r_iconst (kI := nI 1) rfl ?_
  refine vm_r_iconst (kI := nI 3) rfl ?_
  refine vm_r_sipush (kI := nI 31230) rfl ?_
  refine vm_r_cv4V rfl (by decide) (hh2.ob) (Nat.le_of_ble_eq_true rfl) (vm_Ex_le (by first | exact Nat.le_of_ble_eq_true rfl | omega) (c_M_gateIs (kd := 1) (er := 3) (F := 31230) (c := 1675) hh2 r2 (by decide) (by decide) (by decide) (by decide) o1 (by decide))) (fun μ3 q3 => ?_)
  obtain ⟨f3, r3⟩ := q3
  have hh3 : vMh μ3.1 m := by rw [f3.1]; exact hh2
  refine vm_r_aload_n rfl rfl rfl ?_
  refine vm_r_iconst (kI := nI 2) rfl ?_
  refine vm_r_iconst (kI := nI 5) rfl ?_
  refine vm_r_sipush (kI := nI 555) rfl ?_
  refine vm_r_cv4V rfl (by decide) (hh3.ob) (Nat.le_of_ble_eq_true rfl) (vm_Ex_le (by first | exact Nat.le_of_ble_eq_true rfl | omega) (c_M_gateIs (kd := 2) (er := 5) (F := 555) (c := 23360) hh3 r3 (by decide) (by decide) (by decide) (by decide) o2 (by decide))) (fun μ4 q4 => ?_)
  obtain ⟨f4, r4⟩ := q4
  have hh4 : vMh μ4.1 m := by rw [f4.1]; exact hh3
  refine vm_r_aload_n rfl rfl rfl ?_
  refine vm_r_iconst (kI := nI 3) rfl ?_
  refine vm_r_bipush (kI := nI 8) rfl ?_
  refine vm_r_sipush (kI := nI 12321) rfl ?_
  refine vm_r_cv4V rfl (by decide) (hh4.ob) (Nat.le_of_ble_eq_true rfl) (vm_Ex_le (by first | exact Nat.le_of_ble_eq_true rfl | omega) (c_M_gateIs (kd := 3) (er := 8) (F := 12321) (c := 5329) hh4 r4 (by decide) (by decide) (by decide) (by decide) o3 (by decide))) (fun μ5 q5 => ?_)
  obtain ⟨f5, r5⟩ := q5
  have hh5 : vMh μ5.1 m := by rw [f5.1]; exact hh4
  refine vm_r_aload_n rfl rfl rfl ?_
  refine vm_r_sipush (kI := nI 1333) rfl ?_
  refine vm_r_cv2V rfl (by decide) (hh5.ob) (Nat.le_of_ble_eq_true rfl) (vm_Ex_le (by first | exact Nat.le_of_ble_eq_true rfl | omega) (c_M_personIs (F := 1333) (c := 14024) hh5 r5 (by decide) (by decide) p0 (by decide))) (fun μ6 q6 => ?_)
  obtain ⟨f6, r6⟩ := q6
  have hh6 : vMh μ6.1 m := by rw [f6.1]; exact hh5
  refine vm_r_aload_n rfl rfl rfl ?_
  refine vm_r_ldc (kI := nI 55000) rfl ?_
  refine vm_r_cv2V rfl (by decide) (hh6.ob) (Nat.le_of_ble_eq_true rfl) (vm_Ex_le (by first | exact Nat.le_of_ble_eq_true rfl | omega) (c_M_personIs (F := 55000) (c := 45) hh6 r6 (by decide) (by decide) p1 (by decide))) (fun μ7 q7 => ?_)
  obtain ⟨f7, r7⟩ := q7
  have hh7 : vMh μ7.1 m := by rw [f7.1]; exact hh6
  refine vm_r_aload_n rfl rfl rfl ?_
  refine vm_r_sipush (kI := nI 2244) rfl ?_
  refine vm_r_cv2V rfl (by decide) (hh7.ob) (Nat.le_of_ble_eq_true rfl) (vm_Ex_le (by first | exact Nat.le_of_ble_eq_true rfl | omega) (c_M_personIs (F := 2244) (c := 18576) hh7 r7 (by decide) (by decide) p2 (by decide))) (fun μ8 q8 => ?_)
  obtain ⟨f8, r8⟩ := q8
  have hh8 : vMh μ8.1 m := by rw [f8.1]; exact hh7
  refine vm_r_aload_n rfl rfl rfl ?_
  refine vm_r_sipush (kI := nI 31212) rfl ?_
  refine vm_r_cv2V rfl (by decide) (hh8.ob) (Nat.le_of_ble_eq_true rfl) (vm_Ex_le (by first | exact Nat.le_of_ble_eq_true rfl | omega) (c_M_personIs (F := 31212) (c := 8843) hh8 r8 (by decide) (by decide) p3 (by decide))) (fun μ9 q9 => ?_)
  obtain ⟨f9, r9⟩ := q9
  have hh9 : vMh μ9.1 m := by rw [f9.1]; exact hh8
  have ff := (((((((f1.tr f2).tr f3).tr f4).tr f5).tr f6).tr f7).tr f8).tr f9
  have hz9 : μ9.2.1 m 0 = nI 0 := by rw [ff.2.2 _ (by omega)]; exact hz
  refine vm_r_aload_n rfl rfl rfl ?_
  refine vm_r_cv1V rfl (by decide) (hh9.ob) (Nat.le_of_ble_eq_true rfl) (vm_Ex_le (by first | exact Nat.le_of_ble_eq_true rfl | omega) (c_M_begin (n := 0) (x := vtx) (Q := fun _ => vt0) (R := fun _ => vt0) (W := vw00) hh9 r9 ⟨hz9, fun j hj => absurd hj (Nat.not_lt_zero j)⟩)) (fun μ10 q10 => ?_)
  obtain ⟨x10, h10⟩ := q10
  refine vm_r_vret rfl (⟨rfl, (h0.tl (ff.x.sm (a := 0) (b := m) (by omega)) (by omega) (by omega)).tl (x10.sm (a := 0) (b := m) (by omega)) (by omega) (by omega), h10⟩)
end INI5
