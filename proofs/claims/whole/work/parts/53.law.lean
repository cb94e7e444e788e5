/-! The law: one call after the other. -/
section LAW
variable {E : vm_V} {μ : vm_M} {x i c d : Nat} {z : vZ} {Q : Option Value → vm_M → Prop}
set_option maxRecDepth 20000 in
theorem l_write (hN : E.2.2.1 < 2 ^ 31) (hi : i + 5 ≤ E.2.2.1) (h : vJ μ x z) (next : ∀ μ' z', vJ μ' x z' → vm_W E (vm_Ex E 40) k_L_law Q (941, [.ref E.2.1, .ref x, .ref (x + 96), .int (nI i)], [], c, d, μ')) : vm_W E (vm_Ex E 40) k_L_law Q (164, [.ref E.2.1, .ref x, .ref (x + 96), .int (nI i)], [], c, d, μ) := by
  have k := h.1.okz h.2.2
  have kh := h.1.hok
  refine vm_r_aload_n rfl rfl rfl ?_
  refine vm_r_aload_n rfl rfl rfl ?_
  refine vm_r_iload_n rfl rfl rfl ?_
  refine vm_r_iconst (kI := nI 1) rfl ?_
  first | refine vm_r_iaddN rfl ?_ | refine vm_r_iadd rfl ?_
  refine vm_r_saload rfl (by omega) hN ?_
  refine vm_r_cv2X rfl (by decide) (h.1.ob) (Nat.le_of_ble_eq_true rfl) (vm_Ex_le (by first | exact Nat.le_of_ble_eq_true rfl | omega) (c_G_write h.1 _)) (fun v1 μ1 q1 => ?_)
  obtain ⟨rfl, x1, h1⟩ := q1
  have m1 := h.2.1.keepx x1 (by omega)
  refine vm_r_aload_n rfl rfl rfl ?_
  refine vm_r_aload_n rfl rfl rfl ?_
  refine vm_r_iload_n rfl rfl rfl ?_
  refine vm_r_iconst (kI := nI 1) rfl ?_
  first | refine vm_r_iaddN rfl ?_ | refine vm_r_iadd rfl ?_
  refine vm_r_saload rfl (by omega) hN ?_
  refine vm_r_cv2X rfl (by decide) (m1.1.ob) (Nat.le_of_ble_eq_true rfl) (vm_Ex_le (by first | exact Nat.le_of_ble_eq_true rfl | omega) (c_M_write m1 k _)) (fun v2 μ2 q2 => ?_)
  obtain ⟨rfl, x2, h2⟩ := q2
  refine vm_r_icmp_eq rfl (fun _ => ?_) (fun hn => absurd hn ((not_not_intro rfl)))
  exact next μ2 _ ⟨h1.keepx x2 (by omega), h2, iv_write h.2.2 _⟩
set_option maxRecDepth 20000 in
theorem l_wipe (hN : E.2.2.1 < 2 ^ 31) (hi : i + 5 ≤ E.2.2.1) (h : vJ μ x z) (next : ∀ μ' z', vJ μ' x z' → vm_W E (vm_Ex E 40) k_L_law Q (941, [.ref E.2.1, .ref x, .ref (x + 96), .int (nI i)], [], c, d, μ')) : vm_W E (vm_Ex E 40) k_L_law Q (187, [.ref E.2.1, .ref x, .ref (x + 96), .int (nI i)], [], c, d, μ) := by
  have k := h.1.okz h.2.2
  have kh := h.1.hok
  refine vm_r_aload_n rfl rfl rfl ?_
  refine vm_r_cv1X rfl (by decide) (h.1.ob) (Nat.le_of_ble_eq_true rfl) (vm_Ex_le (by first | exact Nat.le_of_ble_eq_true rfl | omega) (c_G_wipe h.1)) (fun v1 μ1 q1 => ?_)
  obtain ⟨rfl, x1, h1⟩ := q1
  have m1 := h.2.1.keepx x1 (by omega)
  refine vm_r_aload_n rfl rfl rfl ?_
  refine vm_r_cv1X rfl (by decide) (m1.1.ob) (Nat.le_of_ble_eq_true rfl) (vm_Ex_le (by first | exact Nat.le_of_ble_eq_true rfl | omega) (c_M_wipe m1)) (fun v2 μ2 q2 => ?_)
  obtain ⟨rfl, x2, h2⟩ := q2
  refine vm_r_icmp_eq rfl (fun _ => ?_) (fun hn => absurd hn ((not_not_intro rfl)))
  exact next μ2 _ ⟨h1.keepx x2 (by omega), h2, iv_wipe h.2.2⟩
set_option maxRecDepth 20000 in
theorem l_fault (hN : E.2.2.1 < 2 ^ 31) (hi : i + 5 ≤ E.2.2.1) (h : vJ μ x z) (next : ∀ μ' z', vJ μ' x z' → vm_W E (vm_Ex E 40) k_L_law Q (941, [.ref E.2.1, .ref x, .ref (x + 96), .int (nI i)], [], c, d, μ')) : vm_W E (vm_Ex E 40) k_L_law Q (200, [.ref E.2.1, .ref x, .ref (x + 96), .int (nI i)], [], c, d, μ) := by
  have k := h.1.okz h.2.2
  have kh := h.1.hok
  refine vm_r_aload_n rfl rfl rfl ?_
  refine vm_r_cv1X rfl (by decide) (h.1.ob) (Nat.le_of_ble_eq_true rfl) (vm_Ex_le (by first | exact Nat.le_of_ble_eq_true rfl | omega) (c_G_fault h.1)) (fun v1 μ1 q1 => ?_)
  obtain ⟨rfl, x1, h1⟩ := q1
  have m1 := h.2.1.keepx x1 (by omega)
  refine vm_r_aload_n rfl rfl rfl ?_
  refine vm_r_cv1X rfl (by decide) (m1.1.ob) (Nat.le_of_ble_eq_true rfl) (vm_Ex_le (by first | exact Nat.le_of_ble_eq_true rfl | omega) (c_M_fault m1 k)) (fun v2 μ2 q2 => ?_)
  obtain ⟨rfl, x2, h2⟩ := q2
  refine vm_r_icmp_eq rfl (fun _ => ?_) (fun hn => absurd hn ((not_not_intro rfl)))
  exact next μ2 _ ⟨h1.keepx x2 (by omega), h2, h.2.2⟩
set_option maxRecDepth 20000 in
theorem l_lay (hN : E.2.2.1 < 2 ^ 31) (hi : i + 5 ≤ E.2.2.1) (h : vJ μ x z) (next : ∀ μ' z', vJ μ' x z' → vm_W E (vm_Ex E 40) k_L_law Q (941, [.ref E.2.1, .ref x, .ref (x + 96), .int (nI i)], [], c, d, μ')) : vm_W E (vm_Ex E 40) k_L_law Q (213, [.ref E.2.1, .ref x, .ref (x + 96), .int (nI i)], [], c, d, μ) := by
  have k := h.1.okz h.2.2
  have kh := h.1.hok
  refine vm_r_aload_n rfl rfl rfl ?_
  refine vm_r_cv1X rfl (by decide) (h.1.ob) (Nat.le_of_ble_eq_true rfl) (vm_Ex_le (by first | exact Nat.le_of_ble_eq_true rfl | omega) (c_G_lay h.1)) (fun v1 μ1 q1 => ?_)
  obtain ⟨rfl, x1, h1⟩ := q1
  have m1 := h.2.1.keepx x1 (by omega)
  refine vm_r_aload_n rfl rfl rfl ?_
  refine vm_r_cv1X rfl (by decide) (m1.1.ob) (Nat.le_of_ble_eq_true rfl) (vm_Ex_le (by first | exact Nat.le_of_ble_eq_true rfl | omega) (c_M_lay m1 k)) (fun v2 μ2 q2 => ?_)
  obtain ⟨rfl, x2, h2⟩ := q2
  refine vm_r_icmp_eq rfl (fun _ => ?_) (fun hn => absurd hn ((not_not_intro rfl)))
  exact next μ2 _ ⟨h1.keepx x2 (by omega), h2, iv_lay h.2.2⟩
set_option maxRecDepth 20000 in
theorem l_gate (hN : E.2.2.1 < 2 ^ 31) (hi : i + 5 ≤ E.2.2.1) (h : vJ μ x z) (next : ∀ μ' z', vJ μ' x z' → vm_W E (vm_Ex E 40) k_L_law Q (941, [.ref E.2.1, .ref x, .ref (x + 96), .int (nI i)], [], c, d, μ')) : vm_W E (vm_Ex E 40) k_L_law Q (226, [.ref E.2.1, .ref x, .ref (x + 96), .int (nI i)], [], c, d, μ) := by
  have k := h.1.okz h.2.2
  have kh := h.1.hok
  refine vm_r_aload_n rfl rfl rfl ?_
  refine vm_r_aload_n rfl rfl rfl ?_
  refine vm_r_iload_n rfl rfl rfl ?_
  refine vm_r_iconst (kI := nI 1) rfl ?_
  first | refine vm_r_iaddN rfl ?_ | refine vm_r_iadd rfl ?_
  refine vm_r_saload rfl (by omega) hN ?_
  refine vm_r_aload_n rfl rfl rfl ?_
  refine vm_r_iload_n rfl rfl rfl ?_
  refine vm_r_iconst (kI := nI 2) rfl ?_
  first | refine vm_r_iaddN rfl ?_ | refine vm_r_iadd rfl ?_
  refine vm_r_saload rfl (by omega) hN ?_
  refine vm_r_cv3X rfl (by decide) (h.1.ob) (Nat.le_of_ble_eq_true rfl) (vm_Ex_le (by first | exact Nat.le_of_ble_eq_true rfl | omega) (c_G_gate h.1 _ _)) (fun v1 μ1 q1 => ?_)
  obtain ⟨rfl, x1, h1⟩ := q1
  have m1 := h.2.1.keepx x1 (by omega)
  refine vm_r_aload_n rfl rfl rfl ?_
  refine vm_r_aload_n rfl rfl rfl ?_
  refine vm_r_iload_n rfl rfl rfl ?_
  refine vm_r_iconst (kI := nI 1) rfl ?_
  first | refine vm_r_iaddN rfl ?_ | refine vm_r_iadd rfl ?_
  refine vm_r_saload rfl (by omega) hN ?_
  refine vm_r_aload_n rfl rfl rfl ?_
  refine vm_r_iload_n rfl rfl rfl ?_
  refine vm_r_iconst (kI := nI 2) rfl ?_
  first | refine vm_r_iaddN rfl ?_ | refine vm_r_iadd rfl ?_
  refine vm_r_saload rfl (by omega) hN ?_
  refine vm_r_cv3X rfl (by decide) (m1.1.ob) (Nat.le_of_ble_eq_true rfl) (vm_Ex_le (by first | exact Nat.le_of_ble_eq_true rfl | omega) (c_M_gate m1 k _ _)) (fun v2 μ2 q2 => ?_)
  obtain ⟨rfl, x2, h2⟩ := q2
  refine vm_r_icmp_eq rfl (fun _ => ?_) (fun hn => absurd hn ((not_not_intro rfl)))
  exact next μ2 _ ⟨h1.keepx x2 (by omega), h2, h.2.2⟩
set_option maxRecDepth 20000 in
theorem l_person (hN : E.2.2.1 < 2 ^ 31) (hi : i + 5 ≤ E.2.2.1) (h : vJ μ x z) (next : ∀ μ' z', vJ μ' x z' → vm_W E (vm_Ex E 40) k_L_law Q (941, [.ref E.2.1, .ref x, .ref (x + 96), .int (nI i)], [], c, d, μ')) : vm_W E (vm_Ex E 40) k_L_law Q (259, [.ref E.2.1, .ref x, .ref (x + 96), .int (nI i)], [], c, d, μ) := by
  have k := h.1.okz h.2.2
  have kh := h.1.hok
  refine vm_r_aload_n rfl rfl rfl ?_
  refine vm_r_aload_n rfl rfl rfl ?_
  refine vm_r_iload_n rfl rfl rfl ?_
  refine vm_r_iconst (kI := nI 1) rfl ?_
  first | refine vm_r_iaddN rfl ?_ | refine vm_r_iadd rfl ?_
  refine vm_r_saload rfl (by omega) hN ?_
  refine vm_r_aload_n rfl rfl rfl ?_
  refine vm_r_iload_n rfl rfl rfl ?_
  refine vm_r_iconst (kI := nI 2) rfl ?_
  first | refine vm_r_iaddN rfl ?_ | refine vm_r_iadd rfl ?_
  refine vm_r_saload rfl (by omega) hN ?_
  refine vm_r_cv3X rfl (by decide) (h.1.ob) (Nat.le_of_ble_eq_true rfl) (vm_Ex_le (by first | exact Nat.le_of_ble_eq_true rfl | omega) (c_G_person h.1 _ _)) (fun v1 μ1 q1 => ?_)
  obtain ⟨rfl, x1, h1⟩ := q1
  have m1 := h.2.1.keepx x1 (by omega)
  refine vm_r_aload_n rfl rfl rfl ?_
  refine vm_r_aload_n rfl rfl rfl ?_
  refine vm_r_iload_n rfl rfl rfl ?_
  refine vm_r_iconst (kI := nI 1) rfl ?_
  first | refine vm_r_iaddN rfl ?_ | refine vm_r_iadd rfl ?_
  refine vm_r_saload rfl (by omega) hN ?_
  refine vm_r_aload_n rfl rfl rfl ?_
  refine vm_r_iload_n rfl rfl rfl ?_
  refine vm_r_iconst (kI := nI 2) rfl ?_
  first | refine vm_r_iaddN rfl ?_ | refine vm_r_iadd rfl ?_
  refine vm_r_saload rfl (by omega) hN ?_
  refine vm_r_cv3X rfl (by decide) (m1.1.ob) (Nat.le_of_ble_eq_true rfl) (vm_Ex_le (by first | exact Nat.le_of_ble_eq_true rfl | omega) (c_M_person m1 k _ _)) (fun v2 μ2 q2 => ?_)
  obtain ⟨rfl, x2, h2⟩ := q2
  refine vm_r_icmp_eq rfl (fun _ => ?_) (fun hn => absurd hn ((not_not_intro rfl)))
  exact next μ2 _ ⟨h1.keepx x2 (by omega), h2, h.2.2⟩
set_option maxRecDepth 20000 in
theorem l_far (hN : E.2.2.1 < 2 ^ 31) (hi : i + 5 ≤ E.2.2.1) (h : vJ μ x z) (next : ∀ μ' z', vJ μ' x z' → vm_W E (vm_Ex E 40) k_L_law Q (941, [.ref E.2.1, .ref x, .ref (x + 96), .int (nI i)], [], c, d, μ')) : vm_W E (vm_Ex E 40) k_L_law Q (292, [.ref E.2.1, .ref x, .ref (x + 96), .int (nI i)], [], c, d, μ) := by
  have k := h.1.okz h.2.2
  have kh := h.1.hok
  refine vm_r_aload_n rfl rfl rfl ?_
  refine vm_r_aload_n rfl rfl rfl ?_
  refine vm_r_iload_n rfl rfl rfl ?_
  refine vm_r_iconst (kI := nI 1) rfl ?_
  first | refine vm_r_iaddN rfl ?_ | refine vm_r_iadd rfl ?_
  refine vm_r_saload rfl (by omega) hN ?_
  refine vm_r_aload_n rfl rfl rfl ?_
  refine vm_r_iload_n rfl rfl rfl ?_
  refine vm_r_iconst (kI := nI 2) rfl ?_
  first | refine vm_r_iaddN rfl ?_ | refine vm_r_iadd rfl ?_
  refine vm_r_saload rfl (by omega) hN ?_
  refine vm_r_cv3X rfl (by decide) (h.1.ob) (Nat.le_of_ble_eq_true rfl) (vm_Ex_le (by first | exact Nat.le_of_ble_eq_true rfl | omega) (c_G_far h.1 _ _)) (fun v1 μ1 q1 => ?_)
  obtain ⟨rfl, x1, h1⟩ := q1
  have m1 := h.2.1.keepx x1 (by omega)
  refine vm_r_aload_n rfl rfl rfl ?_
  refine vm_r_aload_n rfl rfl rfl ?_
  refine vm_r_iload_n rfl rfl rfl ?_
  refine vm_r_iconst (kI := nI 1) rfl ?_
  first | refine vm_r_iaddN rfl ?_ | refine vm_r_iadd rfl ?_
  refine vm_r_saload rfl (by omega) hN ?_
  refine vm_r_aload_n rfl rfl rfl ?_
  refine vm_r_iload_n rfl rfl rfl ?_
  refine vm_r_iconst (kI := nI 2) rfl ?_
  first | refine vm_r_iaddN rfl ?_ | refine vm_r_iadd rfl ?_
  refine vm_r_saload rfl (by omega) hN ?_
  refine vm_r_cv3X rfl (by decide) (m1.1.ob) (Nat.le_of_ble_eq_true rfl) (vm_Ex_le (by first | exact Nat.le_of_ble_eq_true rfl | omega) (c_M_far m1 k _ _)) (fun v2 μ2 q2 => ?_)
  obtain ⟨rfl, x2, h2⟩ := q2
  refine vm_r_icmp_eq rfl (fun _ => ?_) (fun hn => absurd hn ((not_not_intro rfl)))
  exact next μ2 _ ⟨h1.keepx x2 (by omega), h2, h.2.2⟩
set_option maxRecDepth 20000 in
theorem l_ask (hN : E.2.2.1 < 2 ^ 31) (hi : i + 5 ≤ E.2.2.1) (h : vJ μ x z) (next : ∀ μ' z', vJ μ' x z' → vm_W E (vm_Ex E 40) k_L_law Q (941, [.ref E.2.1, .ref x, .ref (x + 96), .int (nI i)], [], c, d, μ')) : vm_W E (vm_Ex E 40) k_L_law Q (325, [.ref E.2.1, .ref x, .ref (x + 96), .int (nI i)], [], c, d, μ) := by
  have k := h.1.okz h.2.2
  have kh := h.1.hok
  refine vm_r_aload_n rfl rfl rfl ?_
  refine vm_r_aload_n rfl rfl rfl ?_
  refine vm_r_iload_n rfl rfl rfl ?_
  refine vm_r_iconst (kI := nI 1) rfl ?_
  first | refine vm_r_iaddN rfl ?_ | refine vm_r_iadd rfl ?_
  refine vm_r_saload rfl (by omega) hN ?_
  refine vm_r_aload_n rfl rfl rfl ?_
  refine vm_r_iload_n rfl rfl rfl ?_
  refine vm_r_iconst (kI := nI 2) rfl ?_
  first | refine vm_r_iaddN rfl ?_ | refine vm_r_iadd rfl ?_
  refine vm_r_saload rfl (by omega) hN ?_
  refine vm_r_cv3X rfl (by decide) (h.1.ob) (Nat.le_of_ble_eq_true rfl) (vm_Ex_le (by first | exact Nat.le_of_ble_eq_true rfl | omega) (c_G_ask h.1 _ _)) (fun v1 μ1 q1 => ?_)
  obtain ⟨rfl, x1, h1⟩ := q1
  have m1 := h.2.1.keepx x1 (by omega)
  refine vm_r_aload_n rfl rfl rfl ?_
  refine vm_r_aload_n rfl rfl rfl ?_
  refine vm_r_iload_n rfl rfl rfl ?_
  refine vm_r_iconst (kI := nI 1) rfl ?_
  first | refine vm_r_iaddN rfl ?_ | refine vm_r_iadd rfl ?_
  refine vm_r_saload rfl (by omega) hN ?_
  refine vm_r_aload_n rfl rfl rfl ?_
  refine vm_r_iload_n rfl rfl rfl ?_
  refine vm_r_iconst (kI := nI 2) rfl ?_
  first | refine vm_r_iaddN rfl ?_ | refine vm_r_iadd rfl ?_
  refine vm_r_saload rfl (by omega) hN ?_
  refine vm_r_cv3X rfl (by decide) (m1.1.ob) (Nat.le_of_ble_eq_true rfl) (vm_Ex_le (by first | exact Nat.le_of_ble_eq_true rfl | omega) (c_M_ask m1 k kh _ _)) (fun v2 μ2 q2 => ?_)
  obtain ⟨rfl, x2, h2⟩ := q2
  refine vm_r_icmp_eq rfl (fun _ => ?_) (fun hn => absurd hn ((not_not_intro rfl)))
  exact next μ2 _ ⟨h1.keepx x2 (by omega), h2, iv_ask h.2.2 k.2.2.2.1 _ _⟩
set_option maxRecDepth 20000 in
theorem l_talk (hN : E.2.2.1 < 2 ^ 31) (hi : i + 5 ≤ E.2.2.1) (h : vJ μ x z) (next : ∀ μ' z', vJ μ' x z' → vm_W E (vm_Ex E 40) k_L_law Q (941, [.ref E.2.1, .ref x, .ref (x + 96), .int (nI i)], [], c, d, μ')) : vm_W E (vm_Ex E 40) k_L_law Q (358, [.ref E.2.1, .ref x, .ref (x + 96), .int (nI i)], [], c, d, μ) := by
  have k := h.1.okz h.2.2
  have kh := h.1.hok
  refine vm_r_aload_n rfl rfl rfl ?_
  refine vm_r_aload_n rfl rfl rfl ?_
  refine vm_r_iload_n rfl rfl rfl ?_
  refine vm_r_iconst (kI := nI 1) rfl ?_
  first | refine vm_r_iaddN rfl ?_ | refine vm_r_iadd rfl ?_
  refine vm_r_saload rfl (by omega) hN ?_
  refine vm_r_aload_n rfl rfl rfl ?_
  refine vm_r_iload_n rfl rfl rfl ?_
  refine vm_r_iconst (kI := nI 2) rfl ?_
  first | refine vm_r_iaddN rfl ?_ | refine vm_r_iadd rfl ?_
  refine vm_r_saload rfl (by omega) hN ?_
  refine vm_r_cv3X rfl (by decide) (h.1.ob) (Nat.le_of_ble_eq_true rfl) (vm_Ex_le (by first | exact Nat.le_of_ble_eq_true rfl | omega) (c_G_talk h.1 _ _)) (fun v1 μ1 q1 => ?_)
  obtain ⟨rfl, x1, h1⟩ := q1
  have m1 := h.2.1.keepx x1 (by omega)
  refine vm_r_aload_n rfl rfl rfl ?_
  refine vm_r_aload_n rfl rfl rfl ?_
  refine vm_r_iload_n rfl rfl rfl ?_
  refine vm_r_iconst (kI := nI 1) rfl ?_
  first | refine vm_r_iaddN rfl ?_ | refine vm_r_iadd rfl ?_
  refine vm_r_saload rfl (by omega) hN ?_
  refine vm_r_aload_n rfl rfl rfl ?_
  refine vm_r_iload_n rfl rfl rfl ?_
  refine vm_r_iconst (kI := nI 2) rfl ?_
  first | refine vm_r_iaddN rfl ?_ | refine vm_r_iadd rfl ?_
  refine vm_r_saload rfl (by omega) hN ?_
  refine vm_r_cv3X rfl (by decide) (m1.1.ob) (Nat.le_of_ble_eq_true rfl) (vm_Ex_le (by first | exact Nat.le_of_ble_eq_true rfl | omega) (c_M_talk m1 k kh _ _)) (fun v2 μ2 q2 => ?_)
  obtain ⟨rfl, x2, h2⟩ := q2
  refine vm_r_icmp_eq rfl (fun _ => ?_) (fun hn => absurd hn ((not_not_intro rfl)))
  exact next μ2 _ ⟨h1.keepx x2 (by omega), h2, iv_talk h.2.2 k.2.2.2.1 _ _⟩
set_option maxRecDepth 20000 in
theorem l_listen (hN : E.2.2.1 < 2 ^ 31) (hi : i + 5 ≤ E.2.2.1) (h : vJ μ x z) (next : ∀ μ' z', vJ μ' x z' → vm_W E (vm_Ex E 40) k_L_law Q (941, [.ref E.2.1, .ref x, .ref (x + 96), .int (nI i)], [], c, d, μ')) : vm_W E (vm_Ex E 40) k_L_law Q (391, [.ref E.2.1, .ref x, .ref (x + 96), .int (nI i)], [], c, d, μ) := by
  have k := h.1.okz h.2.2
  have kh := h.1.hok
  refine vm_r_aload_n rfl rfl rfl ?_
  refine vm_r_aload_n rfl rfl rfl ?_
  refine vm_r_iload_n rfl rfl rfl ?_
  refine vm_r_iconst (kI := nI 1) rfl ?_
  first | refine vm_r_iaddN rfl ?_ | refine vm_r_iadd rfl ?_
  refine vm_r_saload rfl (by omega) hN ?_
  refine vm_r_aload_n rfl rfl rfl ?_
  refine vm_r_iload_n rfl rfl rfl ?_
  refine vm_r_iconst (kI := nI 2) rfl ?_
  first | refine vm_r_iaddN rfl ?_ | refine vm_r_iadd rfl ?_
  refine vm_r_saload rfl (by omega) hN ?_
  refine vm_r_cv3X rfl (by decide) (h.1.ob) (Nat.le_of_ble_eq_true rfl) (vm_Ex_le (by first | exact Nat.le_of_ble_eq_true rfl | omega) (c_G_listen h.1 _ _)) (fun v1 μ1 q1 => ?_)
  obtain ⟨rfl, x1, h1⟩ := q1
  have m1 := h.2.1.keepx x1 (by omega)
  refine vm_r_aload_n rfl rfl rfl ?_
  refine vm_r_aload_n rfl rfl rfl ?_
  refine vm_r_iload_n rfl rfl rfl ?_
  refine vm_r_iconst (kI := nI 1) rfl ?_
  first | refine vm_r_iaddN rfl ?_ | refine vm_r_iadd rfl ?_
  refine vm_r_saload rfl (by omega) hN ?_
  refine vm_r_aload_n rfl rfl rfl ?_
  refine vm_r_iload_n rfl rfl rfl ?_
  refine vm_r_iconst (kI := nI 2) rfl ?_
  first | refine vm_r_iaddN rfl ?_ | refine vm_r_iadd rfl ?_
  refine vm_r_saload rfl (by omega) hN ?_
  refine vm_r_cv3X rfl (by decide) (m1.1.ob) (Nat.le_of_ble_eq_true rfl) (vm_Ex_le (by first | exact Nat.le_of_ble_eq_true rfl | omega) (c_M_listen m1 k kh _ _)) (fun v2 μ2 q2 => ?_)
  obtain ⟨rfl, x2, h2⟩ := q2
  refine vm_r_icmp_eq rfl (fun _ => ?_) (fun hn => absurd hn ((not_not_intro rfl)))
  exact next μ2 _ ⟨h1.keepx x2 (by omega), h2, iv_listen h.2.2 k.2.2.2.1 _ _⟩
set_option maxRecDepth 20000 in
theorem l_undo (hN : E.2.2.1 < 2 ^ 31) (hi : i + 5 ≤ E.2.2.1) (h : vJ μ x z) (next : ∀ μ' z', vJ μ' x z' → vm_W E (vm_Ex E 40) k_L_law Q (941, [.ref E.2.1, .ref x, .ref (x + 96), .int (nI i)], [], c, d, μ')) : vm_W E (vm_Ex E 40) k_L_law Q (424, [.ref E.2.1, .ref x, .ref (x + 96), .int (nI i)], [], c, d, μ) := by
  have k := h.1.okz h.2.2
  have kh := h.1.hok
  refine vm_r_aload_n rfl rfl rfl ?_
  refine vm_r_cv1X rfl (by decide) (h.1.ob) (Nat.le_of_ble_eq_true rfl) (vm_Ex_le (by first | exact Nat.le_of_ble_eq_true rfl | omega) (c_G_undo h.1)) (fun v1 μ1 q1 => ?_)
  obtain ⟨rfl, x1, h1⟩ := q1
  have m1 := h.2.1.keepx x1 (by omega)
  refine vm_r_aload_n rfl rfl rfl ?_
  refine vm_r_cv1X rfl (by decide) (m1.1.ob) (Nat.le_of_ble_eq_true rfl) (vm_Ex_le (by first | exact Nat.le_of_ble_eq_true rfl | omega) (c_M_undo m1 k kh)) (fun v2 μ2 q2 => ?_)
  obtain ⟨rfl, x2, h2⟩ := q2
  refine vm_r_icmp_eq rfl (fun _ => ?_) (fun hn => absurd hn ((not_not_intro rfl)))
  exact next μ2 _ ⟨h1.keepx x2 (by omega), h2, iv_undo h.2.2⟩
set_option maxRecDepth 20000 in
theorem l_opens (hN : E.2.2.1 < 2 ^ 31) (hi : i + 5 ≤ E.2.2.1) (h : vJ μ x z) (next : ∀ μ' z', vJ μ' x z' → vm_W E (vm_Ex E 40) k_L_law Q (941, [.ref E.2.1, .ref x, .ref (x + 96), .int (nI i)], [], c, d, μ')) : vm_W E (vm_Ex E 40) k_L_law Q (437, [.ref E.2.1, .ref x, .ref (x + 96), .int (nI i)], [], c, d, μ) := by
  have k := h.1.okz h.2.2
  have kh := h.1.hok
  refine vm_r_aload_n rfl rfl rfl ?_
  refine vm_r_aload_n rfl rfl rfl ?_
  refine vm_r_iload_n rfl rfl rfl ?_
  refine vm_r_iconst (kI := nI 1) rfl ?_
  first | refine vm_r_iaddN rfl ?_ | refine vm_r_iadd rfl ?_
  refine vm_r_saload rfl (by omega) hN ?_
  refine vm_r_cv2X rfl (by decide) (h.1.ob) (Nat.le_of_ble_eq_true rfl) (vm_Ex_le (by first | exact Nat.le_of_ble_eq_true rfl | omega) (c_G_opens h.1 _)) (fun v1 μ1 q1 => ?_)
  obtain ⟨rfl, x1, h1⟩ := q1
  have m1 := h.2.1.keepx x1 (by omega)
  refine vm_r_aload_n rfl rfl rfl ?_
  refine vm_r_aload_n rfl rfl rfl ?_
  refine vm_r_iload_n rfl rfl rfl ?_
  refine vm_r_iconst (kI := nI 1) rfl ?_
  first | refine vm_r_iaddN rfl ?_ | refine vm_r_iadd rfl ?_
  refine vm_r_saload rfl (by omega) hN ?_
  refine vm_r_cv2X rfl (by decide) (m1.1.ob) (Nat.le_of_ble_eq_true rfl) (vm_Ex_le (by first | exact Nat.le_of_ble_eq_true rfl | omega) (c_M_opens m1 k _)) (fun v2 μ2 q2 => ?_)
  obtain ⟨rfl, x2, h2⟩ := q2
  refine vm_r_icmp_eq rfl (fun _ => ?_) (fun hn => absurd hn ((not_not_intro rfl)))
  exact next μ2 _ ⟨h1.keepx x2 (by omega), h2, h.2.2⟩
set_option maxRecDepth 20000 in
theorem l_best (hN : E.2.2.1 < 2 ^ 31) (hi : i + 5 ≤ E.2.2.1) (h : vJ μ x z) (next : ∀ μ' z', vJ μ' x z' → vm_W E (vm_Ex E 40) k_L_law Q (941, [.ref E.2.1, .ref x, .ref (x + 96), .int (nI i)], [], c, d, μ')) : vm_W E (vm_Ex E 40) k_L_law Q (460, [.ref E.2.1, .ref x, .ref (x + 96), .int (nI i)], [], c, d, μ) := by
  have k := h.1.okz h.2.2
  have kh := h.1.hok
  refine vm_r_aload_n rfl rfl rfl ?_
  refine vm_r_aload_n rfl rfl rfl ?_
  refine vm_r_iload_n rfl rfl rfl ?_
  refine vm_r_iconst (kI := nI 1) rfl ?_
  first | refine vm_r_iaddN rfl ?_ | refine vm_r_iadd rfl ?_
  refine vm_r_saload rfl (by omega) hN ?_
  refine vm_r_cv2X rfl (by decide) (h.1.ob) (Nat.le_of_ble_eq_true rfl) (vm_Ex_le (by first | exact Nat.le_of_ble_eq_true rfl | omega) (c_G_best h.1 _)) (fun v1 μ1 q1 => ?_)
  obtain ⟨rfl, x1, h1⟩ := q1
  have m1 := h.2.1.keepx x1 (by omega)
  refine vm_r_aload_n rfl rfl rfl ?_
  refine vm_r_aload_n rfl rfl rfl ?_
  refine vm_r_iload_n rfl rfl rfl ?_
  refine vm_r_iconst (kI := nI 1) rfl ?_
  first | refine vm_r_iaddN rfl ?_ | refine vm_r_iadd rfl ?_
  refine vm_r_saload rfl (by omega) hN ?_
  refine vm_r_cv2X rfl (by decide) (m1.1.ob) (Nat.le_of_ble_eq_true rfl) (vm_Ex_le (by first | exact Nat.le_of_ble_eq_true rfl | omega) (c_M_best m1 k _)) (fun v2 μ2 q2 => ?_)
  obtain ⟨rfl, x2, h2⟩ := q2
  refine vm_r_icmp_eq rfl (fun _ => ?_) (fun hn => absurd hn ((not_not_intro rfl)))
  exact next μ2 _ ⟨h1.keepx x2 (by omega), h2, h.2.2⟩
set_option maxRecDepth 20000 in
theorem l_middle (hN : E.2.2.1 < 2 ^ 31) (hi : i + 5 ≤ E.2.2.1) (h : vJ μ x z) (next : ∀ μ' z', vJ μ' x z' → vm_W E (vm_Ex E 40) k_L_law Q (941, [.ref E.2.1, .ref x, .ref (x + 96), .int (nI i)], [], c, d, μ')) : vm_W E (vm_Ex E 40) k_L_law Q (483, [.ref E.2.1, .ref x, .ref (x + 96), .int (nI i)], [], c, d, μ) := by
  have k := h.1.okz h.2.2
  have kh := h.1.hok
  refine vm_r_aload_n rfl rfl rfl ?_
  refine vm_r_aload_n rfl rfl rfl ?_
  refine vm_r_iload_n rfl rfl rfl ?_
  refine vm_r_iconst (kI := nI 1) rfl ?_
  first | refine vm_r_iaddN rfl ?_ | refine vm_r_iadd rfl ?_
  refine vm_r_saload rfl (by omega) hN ?_
  refine vm_r_cv2X rfl (by decide) (h.1.ob) (Nat.le_of_ble_eq_true rfl) (vm_Ex_le (by first | exact Nat.le_of_ble_eq_true rfl | omega) (c_G_middle h.1 _)) (fun v1 μ1 q1 => ?_)
  obtain ⟨rfl, x1, h1⟩ := q1
  have m1 := h.2.1.keepx x1 (by omega)
  refine vm_r_aload_n rfl rfl rfl ?_
  refine vm_r_aload_n rfl rfl rfl ?_
  refine vm_r_iload_n rfl rfl rfl ?_
  refine vm_r_iconst (kI := nI 1) rfl ?_
  first | refine vm_r_iaddN rfl ?_ | refine vm_r_iadd rfl ?_
  refine vm_r_saload rfl (by omega) hN ?_
  refine vm_r_cv2X rfl (by decide) (m1.1.ob) (Nat.le_of_ble_eq_true rfl) (vm_Ex_le (by first | exact Nat.le_of_ble_eq_true rfl | omega) (c_M_middle m1 k _)) (fun v2 μ2 q2 => ?_)
  obtain ⟨rfl, x2, h2⟩ := q2
  refine vm_r_icmp_eq rfl (fun _ => ?_) (fun hn => absurd hn ((not_not_intro rfl)))
  exact next μ2 _ ⟨h1.keepx x2 (by omega), h2, h.2.2⟩
set_option maxRecDepth 20000 in
theorem l_lessons (hN : E.2.2.1 < 2 ^ 31) (hi : i + 5 ≤ E.2.2.1) (h : vJ μ x z) (next : ∀ μ' z', vJ μ' x z' → vm_W E (vm_Ex E 40) k_L_law Q (941, [.ref E.2.1, .ref x, .ref (x + 96), .int (nI i)], [], c, d, μ')) : vm_W E (vm_Ex E 40) k_L_law Q (506, [.ref E.2.1, .ref x, .ref (x + 96), .int (nI i)], [], c, d, μ) := by
  have k := h.1.okz h.2.2
  have kh := h.1.hok
  refine vm_r_aload_n rfl rfl rfl ?_
  refine vm_r_aload_n rfl rfl rfl ?_
  refine vm_r_iload_n rfl rfl rfl ?_
  refine vm_r_iconst (kI := nI 1) rfl ?_
  first | refine vm_r_iaddN rfl ?_ | refine vm_r_iadd rfl ?_
  refine vm_r_saload rfl (by omega) hN ?_
  refine vm_r_aload_n rfl rfl rfl ?_
  refine vm_r_iload_n rfl rfl rfl ?_
  refine vm_r_iconst (kI := nI 2) rfl ?_
  first | refine vm_r_iaddN rfl ?_ | refine vm_r_iadd rfl ?_
  refine vm_r_saload rfl (by omega) hN ?_
  refine vm_r_aload_n rfl rfl rfl ?_
  refine vm_r_iload_n rfl rfl rfl ?_
  refine vm_r_iconst (kI := nI 3) rfl ?_
  first | refine vm_r_iaddN rfl ?_ | refine vm_r_iadd rfl ?_
  refine vm_r_saload rfl (by omega) hN ?_
  refine vm_r_cv4X rfl (by decide) (h.1.ob) (Nat.le_of_ble_eq_true rfl) (vm_Ex_le (by first | exact Nat.le_of_ble_eq_true rfl | omega) (c_G_lessons h.1 _ _ _)) (fun v1 μ1 q1 => ?_)
  obtain ⟨rfl, x1, h1⟩ := q1
  have m1 := h.2.1.keepx x1 (by omega)
  refine vm_r_aload_n rfl rfl rfl ?_
  refine vm_r_aload_n rfl rfl rfl ?_
  refine vm_r_iload_n rfl rfl rfl ?_
  refine vm_r_iconst (kI := nI 1) rfl ?_
  first | refine vm_r_iaddN rfl ?_ | refine vm_r_iadd rfl ?_
  refine vm_r_saload rfl (by omega) hN ?_
  refine vm_r_aload_n rfl rfl rfl ?_
  refine vm_r_iload_n rfl rfl rfl ?_
  refine vm_r_iconst (kI := nI 2) rfl ?_
  first | refine vm_r_iaddN rfl ?_ | refine vm_r_iadd rfl ?_
  refine vm_r_saload rfl (by omega) hN ?_
  refine vm_r_aload_n rfl rfl rfl ?_
  refine vm_r_iload_n rfl rfl rfl ?_
  refine vm_r_iconst (kI := nI 3) rfl ?_
  first | refine vm_r_iaddN rfl ?_ | refine vm_r_iadd rfl ?_
  refine vm_r_saload rfl (by omega) hN ?_
  refine vm_r_cv4X rfl (by decide) (m1.1.ob) (Nat.le_of_ble_eq_true rfl) (vm_Ex_le (by first | exact Nat.le_of_ble_eq_true rfl | omega) (c_M_lessons m1 k _ _ _)) (fun v2 μ2 q2 => ?_)
  obtain ⟨rfl, x2, h2⟩ := q2
  refine vm_r_icmp_eq rfl (fun _ => ?_) (fun hn => absurd hn ((not_not_intro rfl)))
  exact next μ2 _ ⟨h1.keepx x2 (by omega), h2, h.2.2⟩
set_option maxRecDepth 20000 in
theorem l_apart (hN : E.2.2.1 < 2 ^ 31) (hi : i + 5 ≤ E.2.2.1) (h : vJ μ x z) (next : ∀ μ' z', vJ μ' x z' → vm_W E (vm_Ex E 40) k_L_law Q (941, [.ref E.2.1, .ref x, .ref (x + 96), .int (nI i)], [], c, d, μ')) : vm_W E (vm_Ex E 40) k_L_law Q (549, [.ref E.2.1, .ref x, .ref (x + 96), .int (nI i)], [], c, d, μ) := by
  have k := h.1.okz h.2.2
  have kh := h.1.hok
  refine vm_r_aload_n rfl rfl rfl ?_
  refine vm_r_aload_n rfl rfl rfl ?_
  refine vm_r_iload_n rfl rfl rfl ?_
  refine vm_r_iconst (kI := nI 1) rfl ?_
  first | refine vm_r_iaddN rfl ?_ | refine vm_r_iadd rfl ?_
  refine vm_r_saload rfl (by omega) hN ?_
  refine vm_r_cv2X rfl (by decide) (h.1.ob) (Nat.le_of_ble_eq_true rfl) (vm_Ex_le (by first | exact Nat.le_of_ble_eq_true rfl | omega) (c_G_apart h.1 _)) (fun v1 μ1 q1 => ?_)
  obtain ⟨rfl, x1, h1⟩ := q1
  have m1 := h.2.1.keepx x1 (by omega)
  refine vm_r_aload_n rfl rfl rfl ?_
  refine vm_r_aload_n rfl rfl rfl ?_
  refine vm_r_iload_n rfl rfl rfl ?_
  refine vm_r_iconst (kI := nI 1) rfl ?_
  first | refine vm_r_iaddN rfl ?_ | refine vm_r_iadd rfl ?_
  refine vm_r_saload rfl (by omega) hN ?_
  refine vm_r_cv2X rfl (by decide) (m1.1.ob) (Nat.le_of_ble_eq_true rfl) (vm_Ex_le (by first | exact Nat.le_of_ble_eq_true rfl | omega) (c_M_apart m1 k _)) (fun v2 μ2 q2 => ?_)
  obtain ⟨rfl, x2, h2⟩ := q2
  refine vm_r_icmp_eq rfl (fun _ => ?_) (fun hn => absurd hn ((not_not_intro rfl)))
  exact next μ2 _ ⟨h1.keepx x2 (by omega), h2, h.2.2⟩
set_option maxRecDepth 20000 in
theorem l_crosses (hN : E.2.2.1 < 2 ^ 31) (hi : i + 5 ≤ E.2.2.1) (h : vJ μ x z) (next : ∀ μ' z', vJ μ' x z' → vm_W E (vm_Ex E 40) k_L_law Q (941, [.ref E.2.1, .ref x, .ref (x + 96), .int (nI i)], [], c, d, μ')) : vm_W E (vm_Ex E 40) k_L_law Q (572, [.ref E.2.1, .ref x, .ref (x + 96), .int (nI i)], [], c, d, μ) := by
  have k := h.1.okz h.2.2
  have kh := h.1.hok
  refine vm_r_aload_n rfl rfl rfl ?_
  refine vm_r_aload_n rfl rfl rfl ?_
  refine vm_r_iload_n rfl rfl rfl ?_
  refine vm_r_iconst (kI := nI 1) rfl ?_
  first | refine vm_r_iaddN rfl ?_ | refine vm_r_iadd rfl ?_
  refine vm_r_saload rfl (by omega) hN ?_
  refine vm_r_aload_n rfl rfl rfl ?_
  refine vm_r_iload_n rfl rfl rfl ?_
  refine vm_r_iconst (kI := nI 2) rfl ?_
  first | refine vm_r_iaddN rfl ?_ | refine vm_r_iadd rfl ?_
  refine vm_r_saload rfl (by omega) hN ?_
  refine vm_r_aload_n rfl rfl rfl ?_
  refine vm_r_iload_n rfl rfl rfl ?_
  refine vm_r_iconst (kI := nI 3) rfl ?_
  first | refine vm_r_iaddN rfl ?_ | refine vm_r_iadd rfl ?_
  refine vm_r_saload rfl (by omega) hN ?_
  refine vm_r_cv4X rfl (by decide) (h.1.ob) (Nat.le_of_ble_eq_true rfl) (vm_Ex_le (by first | exact Nat.le_of_ble_eq_true rfl | omega) (c_G_crosses h.1 _ _ _)) (fun v1 μ1 q1 => ?_)
  obtain ⟨rfl, x1, h1⟩ := q1
  have m1 := h.2.1.keepx x1 (by omega)
  refine vm_r_aload_n rfl rfl rfl ?_
  refine vm_r_aload_n rfl rfl rfl ?_
  refine vm_r_iload_n rfl rfl rfl ?_
  refine vm_r_iconst (kI := nI 1) rfl ?_
  first | refine vm_r_iaddN rfl ?_ | refine vm_r_iadd rfl ?_
  refine vm_r_saload rfl (by omega) hN ?_
  refine vm_r_aload_n rfl rfl rfl ?_
  refine vm_r_iload_n rfl rfl rfl ?_
  refine vm_r_iconst (kI := nI 2) rfl ?_
  first | refine vm_r_iaddN rfl ?_ | refine vm_r_iadd rfl ?_
  refine vm_r_saload rfl (by omega) hN ?_
  refine vm_r_aload_n rfl rfl rfl ?_
  refine vm_r_iload_n rfl rfl rfl ?_
  refine vm_r_iconst (kI := nI 3) rfl ?_
  first | refine vm_r_iaddN rfl ?_ | refine vm_r_iadd rfl ?_
  refine vm_r_saload rfl (by omega) hN ?_
  refine vm_r_cv4X rfl (by decide) (m1.1.ob) (Nat.le_of_ble_eq_true rfl) (vm_Ex_le (by first | exact Nat.le_of_ble_eq_true rfl | omega) (c_M_crosses m1 k _ _ _)) (fun v2 μ2 q2 => ?_)
  obtain ⟨rfl, x2, h2⟩ := q2
  refine vm_r_icmp_eq rfl (fun _ => ?_) (fun hn => absurd hn ((not_not_intro rfl)))
  exact next μ2 _ ⟨h1.keepx x2 (by omega), h2, h.2.2⟩
set_option maxRecDepth 20000 in
theorem l_seen (hN : E.2.2.1 < 2 ^ 31) (hi : i + 5 ≤ E.2.2.1) (h : vJ μ x z) (next : ∀ μ' z', vJ μ' x z' → vm_W E (vm_Ex E 40) k_L_law Q (941, [.ref E.2.1, .ref x, .ref (x + 96), .int (nI i)], [], c, d, μ')) : vm_W E (vm_Ex E 40) k_L_law Q (615, [.ref E.2.1, .ref x, .ref (x + 96), .int (nI i)], [], c, d, μ) := by
  have k := h.1.okz h.2.2
  have kh := h.1.hok
  refine vm_r_aload_n rfl rfl rfl ?_
  refine vm_r_aload_n rfl rfl rfl ?_
  refine vm_r_iload_n rfl rfl rfl ?_
  refine vm_r_iconst (kI := nI 1) rfl ?_
  first | refine vm_r_iaddN rfl ?_ | refine vm_r_iadd rfl ?_
  refine vm_r_saload rfl (by omega) hN ?_
  refine vm_r_aload_n rfl rfl rfl ?_
  refine vm_r_iload_n rfl rfl rfl ?_
  refine vm_r_iconst (kI := nI 2) rfl ?_
  first | refine vm_r_iaddN rfl ?_ | refine vm_r_iadd rfl ?_
  refine vm_r_saload rfl (by omega) hN ?_
  refine vm_r_aload_n rfl rfl rfl ?_
  refine vm_r_iload_n rfl rfl rfl ?_
  refine vm_r_iconst (kI := nI 3) rfl ?_
  first | refine vm_r_iaddN rfl ?_ | refine vm_r_iadd rfl ?_
  refine vm_r_saload rfl (by omega) hN ?_
  refine vm_r_cv4X rfl (by decide) (h.1.ob) (Nat.le_of_ble_eq_true rfl) (vm_Ex_le (by first | exact Nat.le_of_ble_eq_true rfl | omega) (c_G_seen h.1 _ _ _)) (fun v1 μ1 q1 => ?_)
  obtain ⟨rfl, x1, h1⟩ := q1
  have m1 := h.2.1.keepx x1 (by omega)
  refine vm_r_aload_n rfl rfl rfl ?_
  refine vm_r_aload_n rfl rfl rfl ?_
  refine vm_r_iload_n rfl rfl rfl ?_
  refine vm_r_iconst (kI := nI 1) rfl ?_
  first | refine vm_r_iaddN rfl ?_ | refine vm_r_iadd rfl ?_
  refine vm_r_saload rfl (by omega) hN ?_
  refine vm_r_aload_n rfl rfl rfl ?_
  refine vm_r_iload_n rfl rfl rfl ?_
  refine vm_r_iconst (kI := nI 2) rfl ?_
  first | refine vm_r_iaddN rfl ?_ | refine vm_r_iadd rfl ?_
  refine vm_r_saload rfl (by omega) hN ?_
  refine vm_r_aload_n rfl rfl rfl ?_
  refine vm_r_iload_n rfl rfl rfl ?_
  refine vm_r_iconst (kI := nI 3) rfl ?_
  first | refine vm_r_iaddN rfl ?_ | refine vm_r_iadd rfl ?_
  refine vm_r_saload rfl (by omega) hN ?_
  refine vm_r_cv4X rfl (by decide) (m1.1.ob) (Nat.le_of_ble_eq_true rfl) (vm_Ex_le (by first | exact Nat.le_of_ble_eq_true rfl | omega) (c_M_seen m1 k _ _ _)) (fun v2 μ2 q2 => ?_)
  obtain ⟨rfl, x2, h2⟩ := q2
  refine vm_r_icmp_eq rfl (fun _ => ?_) (fun hn => absurd hn ((not_not_intro rfl)))
  exact next μ2 _ ⟨h1.keepx x2 (by omega), h2, iv_seen h.2.2 k.1.2.1 _ _ _⟩
set_option maxRecDepth 20000 in
theorem l_kinds (hN : E.2.2.1 < 2 ^ 31) (hi : i + 5 ≤ E.2.2.1) (h : vJ μ x z) (next : ∀ μ' z', vJ μ' x z' → vm_W E (vm_Ex E 40) k_L_law Q (941, [.ref E.2.1, .ref x, .ref (x + 96), .int (nI i)], [], c, d, μ')) : vm_W E (vm_Ex E 40) k_L_law Q (658, [.ref E.2.1, .ref x, .ref (x + 96), .int (nI i)], [], c, d, μ) := by
  have k := h.1.okz h.2.2
  have kh := h.1.hok
  refine vm_r_aload_n rfl rfl rfl ?_
  refine vm_r_aload_n rfl rfl rfl ?_
  refine vm_r_iload_n rfl rfl rfl ?_
  refine vm_r_iconst (kI := nI 1) rfl ?_
  first | refine vm_r_iaddN rfl ?_ | refine vm_r_iadd rfl ?_
  refine vm_r_saload rfl (by omega) hN ?_
  refine vm_r_cv2X rfl (by decide) (h.1.ob) (Nat.le_of_ble_eq_true rfl) (vm_Ex_le (by first | exact Nat.le_of_ble_eq_true rfl | omega) (c_G_kinds h.1 h.2.2 _)) (fun v1 μ1 q1 => ?_)
  obtain ⟨rfl, x1, h1⟩ := q1
  have m1 := h.2.1.keepx x1 (by omega)
  refine vm_r_aload_n rfl rfl rfl ?_
  refine vm_r_aload_n rfl rfl rfl ?_
  refine vm_r_iload_n rfl rfl rfl ?_
  refine vm_r_iconst (kI := nI 1) rfl ?_
  first | refine vm_r_iaddN rfl ?_ | refine vm_r_iadd rfl ?_
  refine vm_r_saload rfl (by omega) hN ?_
  refine vm_r_cv2X rfl (by decide) (m1.1.ob) (Nat.le_of_ble_eq_true rfl) (vm_Ex_le (by first | exact Nat.le_of_ble_eq_true rfl | omega) (c_M_kinds m1 k _)) (fun v2 μ2 q2 => ?_)
  obtain ⟨rfl, x2, h2⟩ := q2
  refine vm_r_icmp_eq rfl (fun _ => ?_) (fun hn => absurd hn ((not_not_intro rfl)))
  exact next μ2 _ ⟨h1.keepx x2 (by omega), h2, h.2.2⟩
set_option maxRecDepth 20000 in
theorem l_ears (hN : E.2.2.1 < 2 ^ 31) (hi : i + 5 ≤ E.2.2.1) (h : vJ μ x z) (next : ∀ μ' z', vJ μ' x z' → vm_W E (vm_Ex E 40) k_L_law Q (941, [.ref E.2.1, .ref x, .ref (x + 96), .int (nI i)], [], c, d, μ')) : vm_W E (vm_Ex E 40) k_L_law Q (681, [.ref E.2.1, .ref x, .ref (x + 96), .int (nI i)], [], c, d, μ) := by
  have k := h.1.okz h.2.2
  have kh := h.1.hok
  refine vm_r_aload_n rfl rfl rfl ?_
  refine vm_r_aload_n rfl rfl rfl ?_
  refine vm_r_iload_n rfl rfl rfl ?_
  refine vm_r_iconst (kI := nI 1) rfl ?_
  first | refine vm_r_iaddN rfl ?_ | refine vm_r_iadd rfl ?_
  refine vm_r_saload rfl (by omega) hN ?_
  refine vm_r_aload_n rfl rfl rfl ?_
  refine vm_r_iload_n rfl rfl rfl ?_
  refine vm_r_iconst (kI := nI 2) rfl ?_
  first | refine vm_r_iaddN rfl ?_ | refine vm_r_iadd rfl ?_
  refine vm_r_saload rfl (by omega) hN ?_
  refine vm_r_cv3X rfl (by decide) (h.1.ob) (Nat.le_of_ble_eq_true rfl) (vm_Ex_le (by first | exact Nat.le_of_ble_eq_true rfl | omega) (c_G_ears h.1 h.2.2 _ _)) (fun v1 μ1 q1 => ?_)
  obtain ⟨rfl, x1, h1⟩ := q1
  have m1 := h.2.1.keepx x1 (by omega)
  refine vm_r_aload_n rfl rfl rfl ?_
  refine vm_r_aload_n rfl rfl rfl ?_
  refine vm_r_iload_n rfl rfl rfl ?_
  refine vm_r_iconst (kI := nI 1) rfl ?_
  first | refine vm_r_iaddN rfl ?_ | refine vm_r_iadd rfl ?_
  refine vm_r_saload rfl (by omega) hN ?_
  refine vm_r_aload_n rfl rfl rfl ?_
  refine vm_r_iload_n rfl rfl rfl ?_
  refine vm_r_iconst (kI := nI 2) rfl ?_
  first | refine vm_r_iaddN rfl ?_ | refine vm_r_iadd rfl ?_
  refine vm_r_saload rfl (by omega) hN ?_
  refine vm_r_cv3X rfl (by decide) (m1.1.ob) (Nat.le_of_ble_eq_true rfl) (vm_Ex_le (by first | exact Nat.le_of_ble_eq_true rfl | omega) (c_M_ears m1 k _ _)) (fun v2 μ2 q2 => ?_)
  obtain ⟨rfl, x2, h2⟩ := q2
  refine vm_r_icmp_eq rfl (fun _ => ?_) (fun hn => absurd hn ((not_not_intro rfl)))
  exact next μ2 _ ⟨h1.keepx x2 (by omega), h2, h.2.2⟩
set_option maxRecDepth 20000 in
theorem l_heard (hN : E.2.2.1 < 2 ^ 31) (hi : i + 5 ≤ E.2.2.1) (h : vJ μ x z) (next : ∀ μ' z', vJ μ' x z' → vm_W E (vm_Ex E 40) k_L_law Q (941, [.ref E.2.1, .ref x, .ref (x + 96), .int (nI i)], [], c, d, μ')) : vm_W E (vm_Ex E 40) k_L_law Q (714, [.ref E.2.1, .ref x, .ref (x + 96), .int (nI i)], [], c, d, μ) := by
  have k := h.1.okz h.2.2
  have kh := h.1.hok
  refine vm_r_aload_n rfl rfl rfl ?_
  refine vm_r_aload_n rfl rfl rfl ?_
  refine vm_r_iload_n rfl rfl rfl ?_
  refine vm_r_iconst (kI := nI 1) rfl ?_
  first | refine vm_r_iaddN rfl ?_ | refine vm_r_iadd rfl ?_
  refine vm_r_saload rfl (by omega) hN ?_
  refine vm_r_aload_n rfl rfl rfl ?_
  refine vm_r_iload_n rfl rfl rfl ?_
  refine vm_r_iconst (kI := nI 2) rfl ?_
  first | refine vm_r_iaddN rfl ?_ | refine vm_r_iadd rfl ?_
  refine vm_r_saload rfl (by omega) hN ?_
  refine vm_r_cv3X rfl (by decide) (h.1.ob) (Nat.le_of_ble_eq_true rfl) (vm_Ex_le (by first | exact Nat.le_of_ble_eq_true rfl | omega) (c_G_heard h.1 _ _)) (fun v1 μ1 q1 => ?_)
  obtain ⟨rfl, x1, h1⟩ := q1
  have m1 := h.2.1.keepx x1 (by omega)
  refine vm_r_aload_n rfl rfl rfl ?_
  refine vm_r_aload_n rfl rfl rfl ?_
  refine vm_r_iload_n rfl rfl rfl ?_
  refine vm_r_iconst (kI := nI 1) rfl ?_
  first | refine vm_r_iaddN rfl ?_ | refine vm_r_iadd rfl ?_
  refine vm_r_saload rfl (by omega) hN ?_
  refine vm_r_aload_n rfl rfl rfl ?_
  refine vm_r_iload_n rfl rfl rfl ?_
  refine vm_r_iconst (kI := nI 2) rfl ?_
  first | refine vm_r_iaddN rfl ?_ | refine vm_r_iadd rfl ?_
  refine vm_r_saload rfl (by omega) hN ?_
  refine vm_r_cv3X rfl (by decide) (m1.1.ob) (Nat.le_of_ble_eq_true rfl) (vm_Ex_le (by first | exact Nat.le_of_ble_eq_true rfl | omega) (c_M_heard m1 k _ _)) (fun v2 μ2 q2 => ?_)
  obtain ⟨rfl, x2, h2⟩ := q2
  refine vm_r_icmp_eq rfl (fun _ => ?_) (fun hn => absurd hn ((not_not_intro rfl)))
  exact next μ2 _ ⟨h1.keepx x2 (by omega), h2, iv_heard h.2.2 _ _⟩
set_option maxRecDepth 20000 in
theorem l_from (hN : E.2.2.1 < 2 ^ 31) (hi : i + 5 ≤ E.2.2.1) (h : vJ μ x z) (next : ∀ μ' z', vJ μ' x z' → vm_W E (vm_Ex E 40) k_L_law Q (941, [.ref E.2.1, .ref x, .ref (x + 96), .int (nI i)], [], c, d, μ')) : vm_W E (vm_Ex E 40) k_L_law Q (747, [.ref E.2.1, .ref x, .ref (x + 96), .int (nI i)], [], c, d, μ) := by
  have k := h.1.okz h.2.2
  have kh := h.1.hok
  refine vm_r_aload_n rfl rfl rfl ?_
  refine vm_r_cv1X rfl (by decide) (h.1.ob) (Nat.le_of_ble_eq_true rfl) (vm_Ex_le (by first | exact Nat.le_of_ble_eq_true rfl | omega) (c_G_from h.1)) (fun v1 μ1 q1 => ?_)
  obtain ⟨rfl, x1, h1⟩ := q1
  have m1 := h.2.1.keepx x1 (by omega)
  refine vm_r_aload_n rfl rfl rfl ?_
  refine vm_r_cv1X rfl (by decide) (m1.1.ob) (Nat.le_of_ble_eq_true rfl) (vm_Ex_le (by first | exact Nat.le_of_ble_eq_true rfl | omega) (c_M_from m1 k)) (fun v2 μ2 q2 => ?_)
  obtain ⟨rfl, x2, h2⟩ := q2
  refine vm_r_icmp_eq rfl (fun _ => ?_) (fun hn => absurd hn ((not_not_intro rfl)))
  exact next μ2 _ ⟨h1.keepx x2 (by omega), h2, h.2.2⟩
set_option maxRecDepth 20000 in
theorem l_nearest (hN : E.2.2.1 < 2 ^ 31) (hi : i + 5 ≤ E.2.2.1) (h : vJ μ x z) (next : ∀ μ' z', vJ μ' x z' → vm_W E (vm_Ex E 40) k_L_law Q (941, [.ref E.2.1, .ref x, .ref (x + 96), .int (nI i)], [], c, d, μ')) : vm_W E (vm_Ex E 40) k_L_law Q (760, [.ref E.2.1, .ref x, .ref (x + 96), .int (nI i)], [], c, d, μ) := by
  have k := h.1.okz h.2.2
  have kh := h.1.hok
  refine vm_r_aload_n rfl rfl rfl ?_
  refine vm_r_aload_n rfl rfl rfl ?_
  refine vm_r_iload_n rfl rfl rfl ?_
  refine vm_r_iconst (kI := nI 1) rfl ?_
  first | refine vm_r_iaddN rfl ?_ | refine vm_r_iadd rfl ?_
  refine vm_r_saload rfl (by omega) hN ?_
  refine vm_r_cv2X rfl (by decide) (h.1.ob) (Nat.le_of_ble_eq_true rfl) (vm_Ex_le (by first | exact Nat.le_of_ble_eq_true rfl | omega) (c_G_nearest h.1 _)) (fun v1 μ1 q1 => ?_)
  obtain ⟨rfl, x1, h1⟩ := q1
  have m1 := h.2.1.keepx x1 (by omega)
  refine vm_r_aload_n rfl rfl rfl ?_
  refine vm_r_aload_n rfl rfl rfl ?_
  refine vm_r_iload_n rfl rfl rfl ?_
  refine vm_r_iconst (kI := nI 1) rfl ?_
  first | refine vm_r_iaddN rfl ?_ | refine vm_r_iadd rfl ?_
  refine vm_r_saload rfl (by omega) hN ?_
  refine vm_r_cv2X rfl (by decide) (m1.1.ob) (Nat.le_of_ble_eq_true rfl) (vm_Ex_le (by first | exact Nat.le_of_ble_eq_true rfl | omega) (c_M_nearest m1 k _)) (fun v2 μ2 q2 => ?_)
  obtain ⟨rfl, x2, h2⟩ := q2
  refine vm_r_icmp_eq rfl (fun _ => ?_) (fun hn => absurd hn ((not_not_intro rfl)))
  exact next μ2 _ ⟨h1.keepx x2 (by omega), h2, h.2.2⟩
set_option maxRecDepth 20000 in
theorem l_forget (hN : E.2.2.1 < 2 ^ 31) (hi : i + 5 ≤ E.2.2.1) (h : vJ μ x z) (next : ∀ μ' z', vJ μ' x z' → vm_W E (vm_Ex E 40) k_L_law Q (941, [.ref E.2.1, .ref x, .ref (x + 96), .int (nI i)], [], c, d, μ')) : vm_W E (vm_Ex E 40) k_L_law Q (783, [.ref E.2.1, .ref x, .ref (x + 96), .int (nI i)], [], c, d, μ) := by
  have k := h.1.okz h.2.2
  have kh := h.1.hok
  refine vm_r_aload_n rfl rfl rfl ?_
  refine vm_r_cv1X rfl (by decide) (h.1.ob) (Nat.le_of_ble_eq_true rfl) (vm_Ex_le (by first | exact Nat.le_of_ble_eq_true rfl | omega) (c_G_forget h.1)) (fun v1 μ1 q1 => ?_)
  obtain ⟨rfl, x1, h1⟩ := q1
  have m1 := h.2.1.keepx x1 (by omega)
  refine vm_r_aload_n rfl rfl rfl ?_
  refine vm_r_cv1X rfl (by decide) (m1.1.ob) (Nat.le_of_ble_eq_true rfl) (vm_Ex_le (by first | exact Nat.le_of_ble_eq_true rfl | omega) (c_M_forget m1)) (fun v2 μ2 q2 => ?_)
  obtain ⟨rfl, x2, h2⟩ := q2
  refine vm_r_icmp_eq rfl (fun _ => ?_) (fun hn => absurd hn ((not_not_intro rfl)))
  exact next μ2 _ ⟨h1.keepx x2 (by omega), h2, iv_forget h.2.2⟩
set_option maxRecDepth 20000 in
theorem l_likely (hN : E.2.2.1 < 2 ^ 31) (hi : i + 5 ≤ E.2.2.1) (h : vJ μ x z) (next : ∀ μ' z', vJ μ' x z' → vm_W E (vm_Ex E 40) k_L_law Q (941, [.ref E.2.1, .ref x, .ref (x + 96), .int (nI i)], [], c, d, μ')) : vm_W E (vm_Ex E 40) k_L_law Q (796, [.ref E.2.1, .ref x, .ref (x + 96), .int (nI i)], [], c, d, μ) := by
  have k := h.1.okz h.2.2
  have kh := h.1.hok
  refine vm_r_aload_n rfl rfl rfl ?_
  refine vm_r_aload_n rfl rfl rfl ?_
  refine vm_r_iload_n rfl rfl rfl ?_
  refine vm_r_iconst (kI := nI 1) rfl ?_
  first | refine vm_r_iaddN rfl ?_ | refine vm_r_iadd rfl ?_
  refine vm_r_saload rfl (by omega) hN ?_
  refine vm_r_aload_n rfl rfl rfl ?_
  refine vm_r_iload_n rfl rfl rfl ?_
  refine vm_r_iconst (kI := nI 2) rfl ?_
  first | refine vm_r_iaddN rfl ?_ | refine vm_r_iadd rfl ?_
  refine vm_r_saload rfl (by omega) hN ?_
  refine vm_r_aload_n rfl rfl rfl ?_
  refine vm_r_iload_n rfl rfl rfl ?_
  refine vm_r_iconst (kI := nI 3) rfl ?_
  first | refine vm_r_iaddN rfl ?_ | refine vm_r_iadd rfl ?_
  refine vm_r_saload rfl (by omega) hN ?_
  refine vm_r_aload_n rfl rfl rfl ?_
  refine vm_r_iload_n rfl rfl rfl ?_
  refine vm_r_iconst (kI := nI 4) rfl ?_
  first | refine vm_r_iaddN rfl ?_ | refine vm_r_iadd rfl ?_
  refine vm_r_saload rfl (by omega) hN ?_
  refine vm_r_cv5X rfl (by decide) (h.1.ob) (Nat.le_of_ble_eq_true rfl) (vm_Ex_le (by first | exact Nat.le_of_ble_eq_true rfl | omega) (c_G_likely h.1 _ _ _ _)) (fun v1 μ1 q1 => ?_)
  obtain ⟨rfl, x1, h1⟩ := q1
  have m1 := h.2.1.keepx x1 (by omega)
  refine vm_r_aload_n rfl rfl rfl ?_
  refine vm_r_aload_n rfl rfl rfl ?_
  refine vm_r_iload_n rfl rfl rfl ?_
  refine vm_r_iconst (kI := nI 1) rfl ?_
  first | refine vm_r_iaddN rfl ?_ | refine vm_r_iadd rfl ?_
  refine vm_r_saload rfl (by omega) hN ?_
  refine vm_r_aload_n rfl rfl rfl ?_
  refine vm_r_iload_n rfl rfl rfl ?_
  refine vm_r_iconst (kI := nI 2) rfl ?_
  first | refine vm_r_iaddN rfl ?_ | refine vm_r_iadd rfl ?_
  refine vm_r_saload rfl (by omega) hN ?_
  refine vm_r_aload_n rfl rfl rfl ?_
  refine vm_r_iload_n rfl rfl rfl ?_
  refine vm_r_iconst (kI := nI 3) rfl ?_
  first | refine vm_r_iaddN rfl ?_ | refine vm_r_iadd rfl ?_
  refine vm_r_saload rfl (by omega) hN ?_
  refine vm_r_aload_n rfl rfl rfl ?_
  refine vm_r_iload_n rfl rfl rfl ?_
  refine vm_r_iconst (kI := nI 4) rfl ?_
  first | refine vm_r_iaddN rfl ?_ | refine vm_r_iadd rfl ?_
  refine vm_r_saload rfl (by omega) hN ?_
  refine vm_r_cv5X rfl (by decide) (m1.1.ob) (Nat.le_of_ble_eq_true rfl) (vm_Ex_le (by first | exact Nat.le_of_ble_eq_true rfl | omega) (c_M_likely m1 k _ _ _ _)) (fun v2 μ2 q2 => ?_)
  obtain ⟨rfl, x2, h2⟩ := q2
  refine vm_r_icmp_eq rfl (fun _ => ?_) (fun hn => absurd hn ((not_not_intro rfl)))
  exact next μ2 _ ⟨h1.keepx x2 (by omega), h2, h.2.2⟩
set_option maxRecDepth 20000 in
theorem l_year (hN : E.2.2.1 < 2 ^ 31) (hi : i + 5 ≤ E.2.2.1) (h : vJ μ x z) (next : ∀ μ' z', vJ μ' x z' → vm_W E (vm_Ex E 40) k_L_law Q (941, [.ref E.2.1, .ref x, .ref (x + 96), .int (nI i)], [], c, d, μ')) : vm_W E (vm_Ex E 40) k_L_law Q (849, [.ref E.2.1, .ref x, .ref (x + 96), .int (nI i)], [], c, d, μ) := by
  have k := h.1.okz h.2.2
  have kh := h.1.hok
  refine vm_r_aload_n rfl rfl rfl ?_
  refine vm_r_aload_n rfl rfl rfl ?_
  refine vm_r_iload_n rfl rfl rfl ?_
  refine vm_r_iconst (kI := nI 1) rfl ?_
  first | refine vm_r_iaddN rfl ?_ | refine vm_r_iadd rfl ?_
  refine vm_r_saload rfl (by omega) hN ?_
  refine vm_r_aload_n rfl rfl rfl ?_
  refine vm_r_iload_n rfl rfl rfl ?_
  refine vm_r_iconst (kI := nI 2) rfl ?_
  first | refine vm_r_iaddN rfl ?_ | refine vm_r_iadd rfl ?_
  refine vm_r_saload rfl (by omega) hN ?_
  refine vm_r_aload_n rfl rfl rfl ?_
  refine vm_r_iload_n rfl rfl rfl ?_
  refine vm_r_iconst (kI := nI 3) rfl ?_
  first | refine vm_r_iaddN rfl ?_ | refine vm_r_iadd rfl ?_
  refine vm_r_saload rfl (by omega) hN ?_
  refine vm_r_cv4X rfl (by decide) (h.1.ob) (Nat.le_of_ble_eq_true rfl) (vm_Ex_le (by first | exact Nat.le_of_ble_eq_true rfl | omega) (c_G_year h.1 h.2.2 _ _ _)) (fun v1 μ1 q1 => ?_)
  obtain ⟨rfl, x1, h1⟩ := q1
  have m1 := h.2.1.keepx x1 (by omega)
  refine vm_r_aload_n rfl rfl rfl ?_
  refine vm_r_aload_n rfl rfl rfl ?_
  refine vm_r_iload_n rfl rfl rfl ?_
  refine vm_r_iconst (kI := nI 1) rfl ?_
  first | refine vm_r_iaddN rfl ?_ | refine vm_r_iadd rfl ?_
  refine vm_r_saload rfl (by omega) hN ?_
  refine vm_r_aload_n rfl rfl rfl ?_
  refine vm_r_iload_n rfl rfl rfl ?_
  refine vm_r_iconst (kI := nI 2) rfl ?_
  first | refine vm_r_iaddN rfl ?_ | refine vm_r_iadd rfl ?_
  refine vm_r_saload rfl (by omega) hN ?_
  refine vm_r_aload_n rfl rfl rfl ?_
  refine vm_r_iload_n rfl rfl rfl ?_
  refine vm_r_iconst (kI := nI 3) rfl ?_
  first | refine vm_r_iaddN rfl ?_ | refine vm_r_iadd rfl ?_
  refine vm_r_saload rfl (by omega) hN ?_
  refine vm_r_cv4X rfl (by decide) (m1.1.ob) (Nat.le_of_ble_eq_true rfl) (vm_Ex_le (by first | exact Nat.le_of_ble_eq_true rfl | omega) (c_M_year m1 k _ _ _)) (fun v2 μ2 q2 => ?_)
  obtain ⟨rfl, x2, h2⟩ := q2
  refine vm_r_icmp_eq rfl (fun _ => ?_) (fun hn => absurd hn ((not_not_intro rfl)))
  exact next μ2 _ ⟨h1.keepx x2 (by omega), h2, h.2.2⟩
set_option maxRecDepth 20000 in
theorem l_keep (hN : E.2.2.1 < 2 ^ 31) (hi : i + 5 ≤ E.2.2.1) (h : vJ μ x z) (next : ∀ μ' z', vJ μ' x z' → vm_W E (vm_Ex E 40) k_L_law Q (941, [.ref E.2.1, .ref x, .ref (x + 96), .int (nI i)], [], c, d, μ')) : vm_W E (vm_Ex E 40) k_L_law Q (892, [.ref E.2.1, .ref x, .ref (x + 96), .int (nI i)], [], c, d, μ) := by
  have k := h.1.okz h.2.2
  have kh := h.1.hok
  refine vm_r_aload_n rfl rfl rfl ?_
  refine vm_r_cv1X rfl (by decide) (h.1.ob) (Nat.le_of_ble_eq_true rfl) (vm_Ex_le (by first | exact Nat.le_of_ble_eq_true rfl | omega) (c_G_keep h.1)) (fun v1 μ1 q1 => ?_)
  obtain ⟨rfl, x1, h1⟩ := q1
  have m1 := h.2.1.keepx x1 (by omega)
  refine vm_r_aload_n rfl rfl rfl ?_
  refine vm_r_cv1X rfl (by decide) (m1.1.ob) (Nat.le_of_ble_eq_true rfl) (vm_Ex_le (by first | exact Nat.le_of_ble_eq_true rfl | omega) (c_M_keep m1 k kh)) (fun v2 μ2 q2 => ?_)
  obtain ⟨rfl, x2, h2⟩ := q2
  refine vm_r_icmp_eq rfl (fun _ => ?_) (fun hn => absurd hn ((not_not_intro rfl)))
  exact next μ2 _ ⟨h1.keepx x2 (by omega), h2, iv_keep h.2.2⟩
set_option maxRecDepth 20000 in
theorem l_back (hN : E.2.2.1 < 2 ^ 31) (hi : i + 5 ≤ E.2.2.1) (h : vJ μ x z) (next : ∀ μ' z', vJ μ' x z' → vm_W E (vm_Ex E 40) k_L_law Q (941, [.ref E.2.1, .ref x, .ref (x + 96), .int (nI i)], [], c, d, μ')) : vm_W E (vm_Ex E 40) k_L_law Q (905, [.ref E.2.1, .ref x, .ref (x + 96), .int (nI i)], [], c, d, μ) := by
  have k := h.1.okz h.2.2
  have kh := h.1.hok
  refine vm_r_aload_n rfl rfl rfl ?_
  refine vm_r_cv1X rfl (by decide) (h.1.ob) (Nat.le_of_ble_eq_true rfl) (vm_Ex_le (by first | exact Nat.le_of_ble_eq_true rfl | omega) (c_G_back h.1)) (fun v1 μ1 q1 => ?_)
  obtain ⟨rfl, x1, h1⟩ := q1
  have m1 := h.2.1.keepx x1 (by omega)
  refine vm_r_aload_n rfl rfl rfl ?_
  refine vm_r_cv1X rfl (by decide) (m1.1.ob) (Nat.le_of_ble_eq_true rfl) (vm_Ex_le (by first | exact Nat.le_of_ble_eq_true rfl | omega) (c_M_back m1 k kh)) (fun v2 μ2 q2 => ?_)
  obtain ⟨rfl, x2, h2⟩ := q2
  refine vm_r_icmp_eq rfl (fun _ => ?_) (fun hn => absurd hn ((not_not_intro rfl)))
  exact next μ2 _ ⟨h1.keepx x2 (by omega), h2, iv_back h.2.2⟩
set_option maxRecDepth 20000 in
theorem l_count (hN : E.2.2.1 < 2 ^ 31) (hi : i + 5 ≤ E.2.2.1) (h : vJ μ x z) (next : ∀ μ' z', vJ μ' x z' → vm_W E (vm_Ex E 40) k_L_law Q (941, [.ref E.2.1, .ref x, .ref (x + 96), .int (nI i)], [], c, d, μ')) : vm_W E (vm_Ex E 40) k_L_law Q (918, [.ref E.2.1, .ref x, .ref (x + 96), .int (nI i)], [], c, d, μ) := by
  have k := h.1.okz h.2.2
  have kh := h.1.hok
  refine vm_r_aload_n rfl rfl rfl ?_
  refine vm_r_aload_n rfl rfl rfl ?_
  refine vm_r_iload_n rfl rfl rfl ?_
  refine vm_r_iconst (kI := nI 1) rfl ?_
  first | refine vm_r_iaddN rfl ?_ | refine vm_r_iadd rfl ?_
  refine vm_r_saload rfl (by omega) hN ?_
  refine vm_r_cv2X rfl (by decide) (h.1.ob) (Nat.le_of_ble_eq_true rfl) (vm_Ex_le (by first | exact Nat.le_of_ble_eq_true rfl | omega) (c_G_count h.1 _)) (fun v1 μ1 q1 => ?_)
  obtain ⟨rfl, x1, h1⟩ := q1
  have m1 := h.2.1.keepx x1 (by omega)
  refine vm_r_aload_n rfl rfl rfl ?_
  refine vm_r_aload_n rfl rfl rfl ?_
  refine vm_r_iload_n rfl rfl rfl ?_
  refine vm_r_iconst (kI := nI 1) rfl ?_
  first | refine vm_r_iaddN rfl ?_ | refine vm_r_iadd rfl ?_
  refine vm_r_saload rfl (by omega) hN ?_
  refine vm_r_cv2X rfl (by decide) (m1.1.ob) (Nat.le_of_ble_eq_true rfl) (vm_Ex_le (by first | exact Nat.le_of_ble_eq_true rfl | omega) (c_M_count m1 k _)) (fun v2 μ2 q2 => ?_)
  obtain ⟨rfl, x2, h2⟩ := q2
  refine vm_r_icmp_eq rfl (fun _ => ?_) (fun hn => absurd hn ((not_not_intro rfl)))
  exact next μ2 _ ⟨h1.keepx x2 (by omega), h2, h.2.2⟩
end LAW
