/-! The law's loop, from its start to its end. -/
section LOOP
variable {E : vm_V}
set_option maxRecDepth 20000 in
theorem l_loop {x c d : Nat} (hN : E.2.2.1 < 2 ^ 31) : ∀ (n i : Nat) (μ : vm_M) (z : vZ), E.2.2.1 - i ≤ n → i ≤ E.2.2.1 → vJ μ x z → vm_W E (vm_Ex E 40) k_L_law (fun v _ => v = some (.int 1)) (18, [.ref E.2.1, .ref x, .ref (x + 96), .int (nI i)], [], c, d, μ) := by
  intro n
  induction n with
  | zero =>
    intro i μ z h1 h2 h
    by_cases h5 : 5 ≤ E.2.2.1
    · refine vm_r_iload_n rfl rfl rfl ?_
      refine vm_r_aload_n rfl rfl rfl ?_
      refine vm_r_slen rfl ?_
      refine vm_r_iconst (kI := nI 5) rfl ?_
      first | refine vm_r_isubN rfl (by omega) ?_ | refine vm_r_isub rfl ?_
      first | refine vm_r_icmp_gtN rfl (by omega) (by omega) (fun _ => ?_) (fun hn => absurd hn (by omega)) | refine vm_r_icmp_gt rfl (fun _ => ?_) (fun hn => absurd hn (by omega))
      refine vm_r_iconst (kI := nI 1) rfl ?_
      refine vm_r_ret rfl (fun _ => by first | exact vm_bi_01 _ | decide) (rfl)
    · have hneg : nI E.2.2.1 - nI 5 < nI i := by
        have q : nI E.2.2.1 - nI 5 < 0 := pk_sneg (by decide) (by omega)
        exact Int32.lt_of_lt_of_le q (nI_pos' (by omega))
      refine vm_r_iload_n rfl rfl rfl ?_
      refine vm_r_aload_n rfl rfl rfl ?_
      refine vm_r_slen rfl ?_
      refine vm_r_iconst (kI := nI 5) rfl ?_
      refine vm_r_isub rfl ?_
      refine vm_r_icmp_gt rfl (fun _ => ?_) (fun hn => absurd hn ((not_not_intro hneg)))
      refine vm_r_iconst (kI := nI 1) rfl ?_
      refine vm_r_ret rfl (fun _ => by first | exact vm_bi_01 _ | decide) (rfl)
  | succ n ih =>
    intro i μ z h1 h2 h
    by_cases h5 : 5 ≤ E.2.2.1
    · by_cases hi : i + 5 ≤ E.2.2.1
      · have next : ∀ μ' z', vJ μ' x z' → vm_W E (vm_Ex E 40) k_L_law (fun v _ => v = some (.int 1)) (941, [.ref E.2.1, .ref x, .ref (x + 96), .int (nI i)], [], c, d, μ') := by
          intro μ' z' h'
          first | refine vm_r_iinc3N (y := 5) rfl rfl ?_ | refine vm_r_iinc3 rfl rfl ?_
          refine vm_r_goto rfl ?_
          exact ih (i + 5) μ' z' (by omega) hi h'
        obtain ⟨j, hj, ej⟩ := v_and31 (E.2.2.2 i)
        refine vm_r_iload_n rfl rfl rfl ?_
        refine vm_r_aload_n rfl rfl rfl ?_
        refine vm_r_slen rfl ?_
        refine vm_r_iconst (kI := nI 5) rfl ?_
        first | refine vm_r_isubN rfl (by omega) ?_ | refine vm_r_isub rfl ?_
        first | refine vm_r_icmp_gtN rfl (by omega) (by omega) (fun hn => absurd hn (by omega)) (fun _ => ?_) | refine vm_r_icmp_gt rfl (fun hn => absurd hn (by omega)) (fun _ => ?_)
        refine vm_r_aload_n rfl rfl rfl ?_
        refine vm_r_iload_n rfl rfl rfl ?_
        refine vm_r_saload rfl (by omega) hN ?_
        refine vm_r_bipush (kI := nI 31) rfl ?_
        refine vm_r_iand rfl ?_
        rw [ej]
        match j, hj with
        | 0, _ =>
          refine vm_r_br rfl (n' := 164) (vm_tsN (j := 0) (by decide) (by decide) rfl rfl) ?_
          exact l_write hN hi h next
        | 1, _ =>
          refine vm_r_br rfl (n' := 187) (vm_tsN (j := 1) (by decide) (by decide) rfl rfl) ?_
          exact l_wipe hN hi h next
        | 2, _ =>
          refine vm_r_br rfl (n' := 200) (vm_tsN (j := 2) (by decide) (by decide) rfl rfl) ?_
          exact l_fault hN hi h next
        | 3, _ =>
          refine vm_r_br rfl (n' := 213) (vm_tsN (j := 3) (by decide) (by decide) rfl rfl) ?_
          exact l_lay hN hi h next
        | 4, _ =>
          refine vm_r_br rfl (n' := 226) (vm_tsN (j := 4) (by decide) (by decide) rfl rfl) ?_
          exact l_gate hN hi h next
        | 5, _ =>
          refine vm_r_br rfl (n' := 259) (vm_tsN (j := 5) (by decide) (by decide) rfl rfl) ?_
          exact l_person hN hi h next
        | 6, _ =>
          refine vm_r_br rfl (n' := 292) (vm_tsN (j := 6) (by decide) (by decide) rfl rfl) ?_
          exact l_far hN hi h next
        | 7, _ =>
          refine vm_r_br rfl (n' := 325) (vm_tsN (j := 7) (by decide) (by decide) rfl rfl) ?_
          exact l_ask hN hi h next
        | 8, _ =>
          refine vm_r_br rfl (n' := 358) (vm_tsN (j := 8) (by decide) (by decide) rfl rfl) ?_
          exact l_talk hN hi h next
        | 9, _ =>
          refine vm_r_br rfl (n' := 391) (vm_tsN (j := 9) (by decide) (by decide) rfl rfl) ?_
          exact l_listen hN hi h next
        | 10, _ =>
          refine vm_r_br rfl (n' := 424) (vm_tsN (j := 10) (by decide) (by decide) rfl rfl) ?_
          exact l_undo hN hi h next
        | 11, _ =>
          refine vm_r_br rfl (n' := 437) (vm_tsN (j := 11) (by decide) (by decide) rfl rfl) ?_
          exact l_opens hN hi h next
        | 12, _ =>
          refine vm_r_br rfl (n' := 460) (vm_tsN (j := 12) (by decide) (by decide) rfl rfl) ?_
          exact l_best hN hi h next
        | 13, _ =>
          refine vm_r_br rfl (n' := 483) (vm_tsN (j := 13) (by decide) (by decide) rfl rfl) ?_
          exact l_middle hN hi h next
        | 14, _ =>
          refine vm_r_br rfl (n' := 506) (vm_tsN (j := 14) (by decide) (by decide) rfl rfl) ?_
          exact l_lessons hN hi h next
        | 15, _ =>
          refine vm_r_br rfl (n' := 549) (vm_tsN (j := 15) (by decide) (by decide) rfl rfl) ?_
          exact l_apart hN hi h next
        | 16, _ =>
          refine vm_r_br rfl (n' := 572) (vm_tsN (j := 16) (by decide) (by decide) rfl rfl) ?_
          exact l_crosses hN hi h next
        | 17, _ =>
          refine vm_r_br rfl (n' := 615) (vm_tsN (j := 17) (by decide) (by decide) rfl rfl) ?_
          exact l_seen hN hi h next
        | 18, _ =>
          refine vm_r_br rfl (n' := 658) (vm_tsN (j := 18) (by decide) (by decide) rfl rfl) ?_
          exact l_kinds hN hi h next
        | 19, _ =>
          refine vm_r_br rfl (n' := 681) (vm_tsN (j := 19) (by decide) (by decide) rfl rfl) ?_
          exact l_ears hN hi h next
        | 20, _ =>
          refine vm_r_br rfl (n' := 714) (vm_tsN (j := 20) (by decide) (by decide) rfl rfl) ?_
          exact l_heard hN hi h next
        | 21, _ =>
          refine vm_r_br rfl (n' := 747) (vm_tsN (j := 21) (by decide) (by decide) rfl rfl) ?_
          exact l_from hN hi h next
        | 22, _ =>
          refine vm_r_br rfl (n' := 760) (vm_tsN (j := 22) (by decide) (by decide) rfl rfl) ?_
          exact l_nearest hN hi h next
        | 23, _ =>
          refine vm_r_br rfl (n' := 783) (vm_tsN (j := 23) (by decide) (by decide) rfl rfl) ?_
          exact l_forget hN hi h next
        | 24, _ =>
          refine vm_r_br rfl (n' := 796) (vm_tsN (j := 24) (by decide) (by decide) rfl rfl) ?_
          exact l_likely hN hi h next
        | 25, _ =>
          refine vm_r_br rfl (n' := 849) (vm_tsN (j := 25) (by decide) (by decide) rfl rfl) ?_
          exact l_year hN hi h next
        | 26, _ =>
          refine vm_r_br rfl (n' := 892) (vm_tsN (j := 26) (by decide) (by decide) rfl rfl) ?_
          exact l_keep hN hi h next
        | 27, _ =>
          refine vm_r_br rfl (n' := 905) (vm_tsN (j := 27) (by decide) (by decide) rfl rfl) ?_
          exact l_back hN hi h next
        | 28, _ =>
          refine vm_r_br rfl (n' := 918) (vm_tsN (j := 28) (by decide) (by decide) rfl rfl) ?_
          exact l_count hN hi h next
        | 29, _ =>
          refine vm_r_br rfl (n' := 941) (vm_tsD (H := 28) (x := nI 29) (by decide) (by decide) rfl) ?_
          exact next μ z h
        | 30, _ =>
          refine vm_r_br rfl (n' := 941) (vm_tsD (H := 28) (x := nI 30) (by decide) (by decide) rfl) ?_
          exact next μ z h
        | 31, _ =>
          refine vm_r_br rfl (n' := 941) (vm_tsD (H := 28) (x := nI 31) (by decide) (by decide) rfl) ?_
          exact next μ z h
        | j + 32, hj => exact absurd hj (by omega)
      · refine vm_r_iload_n rfl rfl rfl ?_
        refine vm_r_aload_n rfl rfl rfl ?_
        refine vm_r_slen rfl ?_
        refine vm_r_iconst (kI := nI 5) rfl ?_
        first | refine vm_r_isubN rfl (by omega) ?_ | refine vm_r_isub rfl ?_
        first | refine vm_r_icmp_gtN rfl (by omega) (by omega) (fun _ => ?_) (fun hn => absurd hn (by omega)) | refine vm_r_icmp_gt rfl (fun _ => ?_) (fun hn => absurd hn (by omega))
        refine vm_r_iconst (kI := nI 1) rfl ?_
        refine vm_r_ret rfl (fun _ => by first | exact vm_bi_01 _ | decide) (rfl)
    · have hneg : nI E.2.2.1 - nI 5 < nI i := by
        have q : nI E.2.2.1 - nI 5 < 0 := pk_sneg (by decide) (by omega)
        exact Int32.lt_of_lt_of_le q (nI_pos' (by omega))
      refine vm_r_iload_n rfl rfl rfl ?_
      refine vm_r_aload_n rfl rfl rfl ?_
      refine vm_r_slen rfl ?_
      refine vm_r_iconst (kI := nI 5) rfl ?_
      refine vm_r_isub rfl ?_
      refine vm_r_icmp_gt rfl (fun _ => ?_) (fun hn => absurd hn ((not_not_intro hneg)))
      refine vm_r_iconst (kI := nI 1) rfl ?_
      refine vm_r_ret rfl (fun _ => by first | exact vm_bi_01 _ | decide) (rfl)
set_option maxRecDepth 20000 in
theorem l_law (hN : E.2.2.1 < 2 ^ 31) (n0 : Nat) : vm_W E (vm_Ex E 40) k_L_law (fun v _ => v = some (.int 1)) (0, [.ref E.2.1, .retAddr 0, .retAddr 0, .retAddr 0], [], 600000, 7302250, vm_m0' n0) := by
  have hn : (vm_m0' n0).2.2.2.2 = n0 := rfl
  refine vm_r_new (c := 599999) (d := 7302242) (b := 8) rfl ?_
  refine vm_r_dup rfl rfl ?_
  rw [hn]
  refine vm_r_cp1V (c := 599904) (mc := 95) (d := 7293220) (ms := 9022) rfl (by decide) (Nat.le_of_ble_eq_true rfl) (vm_Ex_le (by first | exact Nat.le_of_ble_eq_true rfl | omega) (c_G_init (x := n0) vm_set_eq rfl)) (fun μ1 q1 => ?_)
  refine vm_r_astore_n1 rfl rfl rfl ?_
  obtain ⟨e1, h1⟩ := q1
  refine vm_r_new (c := 599903) (d := 7293198) (b := 22) rfl ?_
  refine vm_r_dup rfl rfl ?_
  rw [e1]
  refine vm_r_cp1V (c := 599888) (mc := 15) (d := 7268786) (ms := 24412) rfl (by decide) (Nat.le_of_ble_eq_true rfl) (vm_Ex_le (by first | exact Nat.le_of_ble_eq_true rfl | omega) (c_M_init (vBd.nw e1))) (fun μ2 q2 => ?_)
  refine vm_r_astore_n2 rfl rfl rfl ?_
  refine vm_r_iconst (kI := nI 0) rfl ?_
  refine vm_r_istore_n3 rfl rfl rfl ?_
  obtain ⟨s2, h2⟩ := q2
  exact l_loop hN E.2.2.1 0 μ2 vz0 (by omega) (by omega) ⟨h1.sm (s2.wd (by omega) (by omega)), h2, iv_0⟩
end LOOP
