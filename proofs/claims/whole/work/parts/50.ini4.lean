/-! New objects: the class. -/
def vtx (j : Nat) : Nat := (vm_txt.getD j 0).toNatClampNeg
theorem vtx_ok : ∀ j, j < 72 → vm_txt.getD j 0 = nI (vtx j) ∧ vtx j < 128 ∧ 0 < vtx j := by decide +kernel
theorem pA_g {x : Nat → Nat} {n f a kd er c a' : Nat} {T : vt_T} (ha : a < n) (h : pG x n a = some ((kd, er, c), a')) (hg : tG T < 5) : pA x n (f + 1) T a = pA x n f (vaG T kd er c) a' := by
  rw [pA_s, if_pos ha, h]
  exact if_pos hg
theorem pA_p {x : Nat → Nat} {n f a c a' : Nat} {T : vt_T} (ha : a < n) (h : pG x n a = none) (h2 : pP x n a = some (c, a')) (hp : tP T < 6) : pA x n (f + 1) T a = pA x n f (vaP T c) a' := by
  rw [pA_s, if_pos ha, h]
  simp only [h2]
  exact if_pos hp
def vfst : vt_T := vaP (vaP (vaP (vaP (vaG (vaG (vaG (vaG vt0 0 4 18056) 1 3 1675) 2 5 23360) 3 8 5329) 14024) 45) 18576) 8843
theorem v_firstG : (pG vtx 72 0 = some ((0, 4, 18056), 11) ∧ pG vtx 72 11 = some ((1, 3, 1675), 22) ∧ pG vtx 72 22 = some ((2, 5, 23360), 33) ∧ pG vtx 72 33 = some ((3, 8, 5329), 44)) ∧ (pG vtx 72 44 = none ∧ pG vtx 72 51 = none ∧ pG vtx 72 58 = none ∧ pG vtx 72 65 = none) ∧
  (pP vtx 72 44 = some (14024, 51) ∧ pP vtx 72 51 = some (45, 58) ∧ pP vtx 72 58 = some (18576, 65) ∧ pP vtx 72 65 = some (8843, 72)) := by decide +kernel
theorem v_first : pA vtx 72 200 vt0 0 = (none, vfst) := by
  obtain ⟨⟨g0, g1, g2, g3⟩, ⟨n0, n1, n2, n3⟩, p0, p1, p2, p3⟩ := v_firstG
  refine (pA_g (f := 199) (by decide) g0 (by decide)).trans ?_
  refine (pA_g (f := 198) (by decide) g1 (by decide)).trans ?_
  refine (pA_g (f := 197) (by decide) g2 (by decide)).trans ?_
  refine (pA_g (f := 196) (by decide) g3 (by decide)).trans ?_
  refine (pA_p (f := 195) (by decide) n0 p0 (by decide)).trans ?_
  refine (pA_p (f := 194) (by decide) n1 p1 (by decide)).trans ?_
  refine (pA_p (f := 193) (by decide) n2 p2 (by decide)).trans ?_
  refine (pA_p (f := 192) (by decide) n3 p3 (by decide)).trans ?_
  rfl
/-- the first state -/
def vz0 : vZ := (vfst, (0, fun _ => vt0), (0, fun _ => vt0), vw00, (0, vtx))
section INI4
variable {E : vm_V} {μ μ0 : vm_M} {x : Nat}
/-- a part is made and put into its field -/
theorem v_part {μ2 : vm_M} {n n' b : Nat} {fl : List (Option (Option Nat))} (hx : μ.1 x = some (.inl (6, fl))) (hn : x < n) (l : vlt μ μ2 n n') : μ2.1 x = some (.inl (6, fl)) ∧ (vm_mS μ2 x (.inl (6, fl.set b (some (some n))))).1 x = some (.inl (6, fl.set b (some (some n)))) ∧ (vm_mS μ2 x (.inl (6, fl.set b (some (some n))))).2.2.2.2 = n' ∧ vsm μ (vm_mS μ2 x (.inl (6, fl.set b (some (some n))))) (x + 1) n ∧ vsm μ2 (vm_mS μ2 x (.inl (6, fl.set b (some (some n))))) (x + 1) (x + 200) :=
  ⟨(l.2 x hn).1.trans hx, vm_set_eq, l.1, fun o a b => by
    obtain ⟨g1, g2, g3, g4⟩ := l.2 o b
    exact ⟨(vm_set_ne (by omega)).trans g1, g2, g3, g4⟩, vsm.mS⟩
theorem c_G_init (hx0 : μ.1 x = some (.inl (6, vm_fl 6))) (hn0 : μ.2.2.2.2 = x + 1) : vm_Ex E 6 n_G_init [.ref x] 95 9022 μ (vm_PV (fun μ' => μ'.2.2.2.2 = x + 96 ∧ vXS μ' x vz0)) := by
  refine vm_start (D := 5) (by decide) rfl (Nat.le_of_ble_eq_true rfl) (k := k_G_init) rfl (L := [.ref x, .retAddr 0]) rfl ?_
  refine vm_r_aload_n rfl rfl rfl ?_
  refine vm_r_oinit rfl (Nat.le_of_ble_eq_true rfl) ?_
  refine vm_r_aload_n rfl rfl rfl ?_
  refine vm_r_new (c := 94) (d := 9019) (b := 3) rfl ?_
  rw [hn0]
  refine vm_r_dup rfl rfl ?_
  refine vm_r_cp1V (c := 93) (mc := 1) (d := 8819) (ms := 200) rfl (by decide) (Nat.le_of_ble_eq_true rfl) (vm_Ex_le (by first | exact Nat.le_of_ble_eq_true rfl | omega) (c_SC_init (vBd.nw hn0))) (fun μ1 q1 => ?_)
  obtain ⟨l1, w1⟩ := q1
  obtain ⟨y1, hx1, hn1, s1, r1⟩ := v_part (b := 0) hx0 (by omega) l1
  refine vm_r_putR rfl (y1) (rfl) ?_
  have w1 := w1.sm (r1.wd (by omega) (by omega))
  generalize vm_mS μ1 x _ = ν1 at *
  refine vm_r_aload_n rfl rfl rfl ?_
  refine vm_r_new (c := 92) (d := 8810) (b := 9) rfl ?_
  rw [hn1]
  refine vm_r_dup rfl rfl ?_
  refine vm_r_cp1V (c := 87) (mc := 5) (d := 8783) (ms := 27) rfl (by decide) (Nat.le_of_ble_eq_true rfl) (vm_Ex_le (by first | exact Nat.le_of_ble_eq_true rfl | omega) (c_TN_init (vBd.nw hn1))) (fun μ2 q2 => ?_)
  obtain ⟨l2, w2⟩ := q2
  obtain ⟨y2, hx2, hn2, s2, r2⟩ := v_part (b := 1) hx1 (by omega) l2
  refine vm_r_putR rfl (y2) (rfl) ?_
  have w2 := w2.sm (r2.wd (by omega) (by omega))
  generalize vm_mS μ2 x _ = ν2 at *
  refine vm_r_aload_n rfl rfl rfl ?_
  refine vm_r_new (c := 86) (d := 8774) (b := 9) rfl ?_
  rw [hn2]
  refine vm_r_dup rfl rfl ?_
  refine vm_r_cp1V (c := 81) (mc := 5) (d := 8747) (ms := 27) rfl (by decide) (Nat.le_of_ble_eq_true rfl) (vm_Ex_le (by first | exact Nat.le_of_ble_eq_true rfl | omega) (c_TN_init (vBd.nw hn2))) (fun μ3 q3 => ?_)
  obtain ⟨l3, w3⟩ := q3
  obtain ⟨y3, hx3, hn3, s3, r3⟩ := v_part (b := 2) hx2 (by omega) l3
  refine vm_r_putR rfl (y3) (rfl) ?_
  have w3 := w3.sm (r3.wd (by omega) (by omega))
  generalize vm_mS μ3 x _ = ν3 at *
  refine vm_r_aload_n rfl rfl rfl ?_
  refine vm_r_new (c := 80) (d := 8745) (b := 2) rfl ?_
  rw [hn3]
  refine vm_r_dup rfl rfl ?_
  refine vm_r_bipush (kI := nI 8) rfl ?_
  refine vm_r_cp2V (c := 31) (mc := 49) (d := 8449) (ms := 296) rfl (by decide) (Nat.le_of_ble_eq_true rfl) (vm_Ex_le (by first | exact Nat.le_of_ble_eq_true rfl | omega) (c_SH_init (cap := 8) (vBd.nw hn3) (by decide) (by decide))) (fun μ4 q4 => ?_)
  obtain ⟨l4, w4⟩ := q4
  obtain ⟨y4, hx4, hn4, s4, r4⟩ := v_part (b := 3) hx3 (by omega) l4
  refine vm_r_putR rfl (y4) (rfl) ?_
  have w4 := w4.sm (r4.wd (by omega) (by omega))
  generalize vm_mS μ4 x _ = ν4 at *
  refine vm_r_aload_n rfl rfl rfl ?_
  refine vm_r_new (c := 30) (d := 8447) (b := 2) rfl ?_
  rw [hn4]
  refine vm_r_dup rfl rfl ?_
  refine vm_r_iconst (kI := nI 2) rfl ?_
  refine vm_r_cp2V (c := 17) (mc := 13) (d := 8373) (ms := 74) rfl (by decide) (Nat.le_of_ble_eq_true rfl) (vm_Ex_le (by first | exact Nat.le_of_ble_eq_true rfl | omega) (c_SH_init (cap := 2) (vBd.nw hn4) (by decide) (by decide))) (fun μ5 q5 => ?_)
  obtain ⟨l5, w5⟩ := q5
  obtain ⟨y5, hx5, hn5, s5, r5⟩ := v_part (b := 4) hx4 (by omega) l5
  refine vm_r_putR rfl (y5) (rfl) ?_
  have w5 := w5.sm (r5.wd (by omega) (by omega))
  generalize vm_mS μ5 x _ = ν5 at *
  refine vm_r_aload_n rfl rfl rfl ?_
  refine vm_r_new (c := 16) (d := 8366) (b := 7) rfl ?_
  rw [hn5]
  refine vm_r_dup rfl rfl ?_
  refine vm_r_cp1V (c := 11) (mc := 5) (d := 8332) (ms := 34) rfl (by decide) (Nat.le_of_ble_eq_true rfl) (vm_Ex_le (by first | exact Nat.le_of_ble_eq_true rfl | omega) (c_WI_init (vBd.nw hn5))) (fun μ6 q6 => ?_)
  obtain ⟨l6, w6⟩ := q6
  obtain ⟨y6, hx6, hn6, s6, r6⟩ := v_part (b := 5) hx5 (by omega) l6
  refine vm_r_putR rfl (y6) (rfl) ?_
  have w6 := w6.sm (r6.wd (by omega) (by omega))
  generalize vm_mS μ6 x _ = ν6 at *
  refine vm_r_aload_n rfl rfl rfl ?_
  refine vm_r_new (c := 10) (d := 8329) (b := 3) rfl ?_
  rw [hn6]
  refine vm_r_dup rfl rfl ?_
  refine vm_r_cp1V (c := 3) (mc := 7) (d := 8293) (ms := 36) rfl (by decide) (Nat.le_of_ble_eq_true rfl) (vm_Ex_le (by first | exact Nat.le_of_ble_eq_true rfl | omega) (c_BS_init (vBd.nw hn6))) (fun μ7 q7 => ?_)
  obtain ⟨l7, w7⟩ := q7
  obtain ⟨y7, hx7, hn7, s7, r7⟩ := v_part (b := 6) hx6 (by omega) l7
  refine vm_r_putR rfl (y7) (rfl) ?_
  have w7a := w7.1.sm (r7.wd (by omega) (by omega))
  have w7b := w7.2
  have w7c := (r7 (x + 87) (by omega) (by omega)).2.1
  generalize vm_mS μ7 x _ = ν7 at *
  refine vm_r_aload_n rfl rfl rfl ?_
  refine vm_r_new (c := 2) (d := 8288) (b := 5) rfl ?_
  rw [hn7]
  refine vm_r_dup rfl rfl ?_
  refine vm_r_cp1V (c := 0) (mc := 2) (d := 0) (ms := 8288) rfl (by decide) (Nat.le_of_ble_eq_true rfl) (vm_Ex_le (by first | exact Nat.le_of_ble_eq_true rfl | omega) (c_LS_init (vBd.nw hn7))) (fun μ8 q8 => ?_)
  obtain ⟨l8, w8⟩ := q8
  obtain ⟨y8, hx8, hn8, s8, r8⟩ := v_part (b := 7) hx7 (by omega) l8
  refine vm_r_putR rfl (y8) (rfl) ?_
  obtain ⟨st8, w8⟩ := w8
  have w8 := w8.sm (r8.wd (by omega) (by omega))
  generalize vm_mS μ8 x _ = ν8 at *
  have w1 := w1.sm (((((((s2.tl s3 (by omega) (by omega)).tl s4 (by omega) (by omega)).tl s5 (by omega) (by omega)).tl s6 (by omega) (by omega)).tl s7 (by omega) (by omega)).tl s8 (by omega) (by omega)).wd (by omega) (by omega))
  have w2 := w2.sm ((((((s3.tl s4 (by omega) (by omega)).tl s5 (by omega) (by omega)).tl s6 (by omega) (by omega)).tl s7 (by omega) (by omega)).tl s8 (by omega) (by omega)).wd (by omega) (by omega))
  have w3 := w3.sm (((((s4.tl s5 (by omega) (by omega)).tl s6 (by omega) (by omega)).tl s7 (by omega) (by omega)).tl s8 (by omega) (by omega)).wd (by omega) (by omega))
  have w4 := w4.sm ((((s5.tl s6 (by omega) (by omega)).tl s7 (by omega) (by omega)).tl s8 (by omega) (by omega)).wd (by omega) (by omega))
  have w5 := w5.sm (((s6.tl s7 (by omega) (by omega)).tl s8 (by omega) (by omega)).wd (by omega) (by omega))
  have w6 := w6.sm ((s7.tl s8 (by omega) (by omega)).wd (by omega) (by omega))
  have w7a := w7a.sm (s8.wd (by omega) (by omega))
  have w7b : ∀ g, g < 5 → ν8.2.1 (x + 87) g = 0 := fun g hg => by rw [(s8 (x + 87) (by omega) (by omega)).2.1, w7c]; exact w7b g hg
  have h0 : vXS ν8 x (vt0, (0, fun _ => vt0), (0, fun _ => vt0), vw00, (0, vtx)) := ⟨hx8, ⟨0, ⟨w1.1, ⟨Nat.zero_le _, fun j hj => absurd hj (Nat.not_lt_zero j)⟩, w1.2.2.1, w1.2.2.2.1, fun j hj => absurd hj (Nat.not_lt_zero j)⟩⟩, w2, w3.s, ⟨_, w4⟩, ⟨_, w5⟩, w6, ⟨w7a, w7b⟩, ⟨st8, w8⟩⟩
  have hn8' : ν8.2.2.2.2 = x + 96 := hn8
  refine vm_r_iconst (kI := nI 0) rfl ?_
  refine vm_r_istore_n1 rfl rfl rfl ?_
  refine vm_up (P := fun i => ∀ μ' : vm_M, μ'.2.2.2.2 = x + 96 → vXS μ' x (vt0, (0, fun _ => vt0), (0, fun _ => vt0), vw00, (i, vtx)) → vm_W E (vm_Ex E 5) k_G_init _ (97, [.ref x, .int (nI i)], [], 0, 0, μ')) (N := 72) ?_ ?_ 0 (by omega) ν8 hn8' h0
  · intro μ' hn' h
    obtain ⟨a, hs⟩ := h.2.1
    have hs : vS μ' (x + 1) vtx 72 a := hs
    refine vm_r_iload_n rfl rfl rfl ?_
    refine vm_r_ldcs rfl ?_
    refine vm_r_strlen rfl (Nat.le_of_ble_eq_true rfl) ?_
    first | refine vm_r_icmp_geN rfl (by omega) (by omega) (fun _ => ?_) (fun hn => absurd hn (by omega)) | refine vm_r_icmp_ge rfl (fun _ => ?_) (fun hn => absurd hn (by omega))
    refine vm_r_aload_n rfl rfl rfl ?_
    refine vm_r_getR rfl (h.r0) ?_
    refine vm_r_aload_n rfl rfl rfl ?_
    refine vm_r_getR rfl (h.r1) ?_
    refine vm_r_cv2X rfl (by decide) (hs.ob) (Nat.le_of_ble_eq_true rfl) (vm_Ex_le (by first | exact Nat.le_of_ble_eq_true rfl | omega) (c_SC_readInto hs h.t.s (by omega))) (fun v9 μ9 q9 => ?_)
    obtain ⟨f9, -, ⟨a9, hs9⟩, ht9⟩ := q9
    rw [v_first] at ht9
    have ht9 : vt_C μ9 (x + 3) vfst := ht9 rfl
    have k9 : vx μ' μ9 (x + 1) (x + 8) := f9.x (by omega) (by omega) (by omega) (by omega)
    obtain ⟨h1, h2, h3, h4, ⟨f5, h5⟩, ⟨f6, h6⟩, h7, ⟨h8, h8'⟩, ⟨st, h9⟩⟩ := h
    have hX : vXS μ9 x (vfst, (0, fun _ => vt0), (0, fun _ => vt0), vw00, (72, vtx)) := ⟨by rw [f9.1]; exact h1, ⟨_, hs9⟩, ht9, by rw [f9.1]; exact h4, ⟨f5, h5.keepx k9 (by omega)⟩, ⟨f6, h6.keepx k9 (by omega)⟩, h7.keepx k9 (by omega), ⟨h8.keepx k9 (by omega), fun j hj => by rw [(k9.2.2 _ (by omega)).1]; exact h8' j hj⟩, ⟨st, h9.keepx k9 (by omega)⟩⟩
    have fz : vf μ9 (vm_mI μ9 (x + 1) 1 (nI 0)) (x + 1) (x + 1) := vf.mI (Nat.le_refl _) (Nat.le_refl _)
    have hsz : vS (vm_mI μ9 (x + 1) 1 (nI 0)) (x + 1) vtx 0 a9 := ⟨hs9.1, ⟨Nat.zero_le _, fun j hj => absurd hj (Nat.not_lt_zero j)⟩, rI_eq, by rw [rI_nk (by decide)]; exact hs9.2.2.2.1, fun j hj => absurd hj (Nat.not_lt_zero j)⟩
    refine vm_r_pop rfl rfl ?_
    refine vm_r_aload_n rfl rfl rfl ?_
    refine vm_r_getR rfl (hX.r0) ?_
    refine vm_r_iconst (kI := nI 0) rfl ?_
    refine vm_r_putI rfl (hs9.wN) ?_
    refine vm_r_vret rfl (⟨rfl, ?_, hX.scr (fz.x.wd (by omega) (by omega)) hsz⟩)
    have e9 : μ9.2.2.2.2 = μ'.2.2.2.2 := k9.2.1
    exact e9.trans hn'
  · intro i hi ih μ' hn' h
    obtain ⟨a, hs⟩ := h.2.1
    have hs : vS μ' (x + 1) vtx i a := hs
    obtain ⟨t1, t2, -⟩ := vtx_ok i hi
    refine vm_r_iload_n rfl rfl rfl ?_
    refine vm_r_ldcs rfl ?_
    refine vm_r_strlen rfl (Nat.le_of_ble_eq_true rfl) ?_
    first | refine vm_r_icmp_geN rfl (by omega) (by omega) (fun hn => absurd hn (by omega)) (fun _ => ?_) | refine vm_r_icmp_ge rfl (fun hn => absurd hn (by omega)) (fun _ => ?_)
    refine vm_r_aload_n rfl rfl rfl ?_
    refine vm_r_getR rfl (h.r0) ?_
    refine vm_r_ldcs rfl ?_
    refine vm_r_iload_n rfl rfl rfl ?_
    refine vm_r_strat rfl (Nat.le_of_ble_eq_true rfl) (by omega) ?_
    rw [t1]
    refine vm_r_cv2X rfl (by decide) (hs.ob) (Nat.le_of_ble_eq_true rfl) (vm_Ex_le (by first | exact Nat.le_of_ble_eq_true rfl | omega) (c_SC_append hs t2)) (fun v9 μ9 q9 => ?_)
    obtain ⟨-, x9, hs9, -⟩ := q9
    have hs9 := hs9 (by omega)
    have ey : vu vtx i (vtx i) = vtx := by
      funext j
      unfold vu
      split
      · rename_i y
        rw [y]
      · rfl
    rw [ey] at hs9
    have h9 := h.scr x9 hs9
    refine vm_r_pop rfl rfl ?_
    first | refine vm_r_iinc1N (y := 1) rfl rfl ?_ | refine vm_r_iinc1 rfl rfl ?_
    refine vm_r_goto rfl ?_
    have e9 : μ9.2.2.2.2 = μ'.2.2.2.2 := x9.2.1
    exact ih μ9 (e9.trans hn') h9
end INI4
