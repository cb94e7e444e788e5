/-! The class's methods: acts, what is best. -/
section API2
variable {E : vm_V} {μ : vm_M} {x : Nat} {z : vZ}
theorem c_G_ask (h : vXS μ x z) (p g : Int32) : vm_Ex E 6 n_G_ask [.ref x, .int p, .int g] 0 0 μ (vPG μ x (o_ask z p g)) := by
  have hG := h.t.ok.G5
  have hP := h.t.ok.P6
  obtain ⟨fp, hp0⟩ := h.2.2.2.2.1
  unfold o_ask
  refine vm_start (D := 5) (by decide) rfl (Nat.le_of_ble_eq_true rfl) (k := k_G_ask) rfl (L := [.ref x, .int p, .int g]) rfl ?_
  refine vm_r_aload_n rfl rfl rfl ?_
  refine vm_r_getR rfl (h.r1) ?_
  refine vm_r_iload_n rfl rfl rfl ?_
  refine vm_r_cv2I rfl (by decide) (h.t.s.ob) (Nat.le_of_ble_eq_true rfl) (vm_Ex_le (by first | exact Nat.le_of_ble_eq_true rfl | omega) (c_TN_isPerson h.t p)) ?_
  first | refine vm_r_if_eqB rfl (fun hp => ?_) (fun hp => ?_) | refine vm_r_if_eqN rfl (by omega) (fun hp => ?_) (fun hp => ?_) | refine vm_r_if_eq rfl (fun hp => ?_) (fun hp => ?_)
  · rw [if_neg (fun q => hp q.1)]
    refine vm_r_iconst rfl ?_
    refine vm_r_ret rfl (fun h => by cases h) (vPG.pure h rfl)
  · refine vm_r_aload_n rfl rfl rfl ?_
    refine vm_r_getR rfl (h.r1) ?_
    refine vm_r_iload_n rfl rfl rfl ?_
    refine vm_r_cv2I rfl (by decide) (h.t.s.ob) (Nat.le_of_ble_eq_true rfl) (vm_Ex_le (by first | exact Nat.le_of_ble_eq_true rfl | omega) (c_TN_isGate h.t g)) ?_
    first | refine vm_r_if_neB rfl (fun hg => ?_) (fun hg => ?_) | refine vm_r_if_neN rfl (by omega) (fun hg => ?_) (fun hg => ?_) | refine vm_r_if_ne rfl (fun hg => ?_) (fun hg => ?_)
    · rw [if_pos ⟨hp, hg⟩]
      obtain ⟨i, hi, rfl⟩ := vix_n (by omega) hp
      obtain ⟨j, hj, rfl⟩ := vix_n (by omega) hg
      rw [nn_nI (by omega), nn_nI (by omega)]
      refine vm_r_aload_n rfl rfl rfl ?_
      refine vm_r_getR rfl (h.r3) ?_
      refine vm_r_aload_n rfl rfl rfl ?_
      refine vm_r_getR rfl (h.r1) ?_
      refine vm_r_cv2V rfl (by decide) (hp0.ob) (Nat.le_of_ble_eq_true rfl) (vm_Ex_le (by first | exact Nat.le_of_ble_eq_true rfl | omega) (c_SH_put hp0 h.t (by omega))) (fun μ1 q1 => ?_)
      obtain ⟨x1, f', a1⟩ := q1
      have h1 := h.pst (x1.wd (by omega) (by omega)) a1
      refine vm_r_aload_n rfl rfl rfl ?_
      refine vm_r_getR rfl (h1.r1) ?_
      refine vm_r_iload_n rfl rfl rfl ?_
      refine vm_r_iload_n rfl rfl rfl ?_
      refine vm_r_cv3X rfl (by decide) (h1.t.s.ob) (Nat.le_of_ble_eq_true rfl) (vm_Ex_le (by first | exact Nat.le_of_ble_eq_true rfl | omega) (c_TN_visit h1.t hi hj)) (fun v2 μ2 q2 => ?_)
      obtain ⟨rfl, f2, t2⟩ := q2
      have h2 := h1.twn (f2.x.wd (by omega) (by omega)) t2
      have xx : vx μ μ2 x (x + 95) := (x1.wd (by omega) (by omega)).tr (f2.x.wd (by omega) (by omega))
      first | refine vm_r_if_eqB rfl (fun e => ?_) (fun e => ?_) | refine vm_r_if_eqN rfl (by omega) (fun e => ?_) (fun e => ?_) | refine vm_r_if_eq rfl (fun e => ?_) (fun e => ?_)
      · refine vm_r_iconst (kI := nI 0) rfl ?_
        refine vm_r_ret rfl (fun h => by cases h) (⟨_, rfl, (vm_bi_f e).symm, xx, h2⟩)
      · refine vm_r_iconst (kI := nI 1) rfl ?_
        refine vm_r_goto rfl ?_
        refine vm_r_ret rfl (fun h => by cases h) (⟨_, rfl, (vm_bi_t e).symm, xx, h2⟩)
    · rw [if_neg (fun q => hg q.2)]
      refine vm_r_iconst rfl ?_
      refine vm_r_ret rfl (fun h => by cases h) (vPG.pure h rfl)
theorem c_G_followB {i j : Nat} (h : vXS μ x z) (hi : i < tP (zT z)) (hj : j < tP (zT z)) : vm_Ex E 4 n_G_follow [.ref x, .ref (x + 3 + 4), .int (nI i), .int (nI j)] 0 0 μ
    (vPG μ x (if vfd (vd (tB (zT z) i)) (vd (tB (zT z) j)) < 5 then (nI (vfd (vd (tB (zT z) i)) (vd (tB (zT z) j))), zput z (vcon (zT z) i j)) else (-2, z))) := by
  have hP := h.t.ok.P6
  have hA := h.t.ok.B hi
  have hB := h.t.ok.B hj
  have hAl := hA.1
  have hBl := hB.1
  obtain ⟨fp, hp0⟩ := h.2.2.2.2.1
  refine vm_start (D := 3) (by decide) rfl (Nat.le_of_ble_eq_true rfl) (k := k_G_follow) rfl (L := [.ref x, .ref (x + 3 + 4), .int (nI i), .int (nI j), .retAddr 0]) rfl ?_
  refine vm_r_aload_n rfl rfl rfl ?_
  refine vm_r_iload_n rfl rfl rfl ?_
  refine vm_r_iaload rfl (h.t.s.sB) (by omega) (by omega) (h.t.vB hi) ?_
  refine vm_r_aload_n rfl rfl rfl ?_
  refine vm_r_iload_n rfl rfl rfl ?_
  refine vm_r_iaload rfl (h.t.s.sB) (by omega) (by omega) (h.t.vB hj) ?_
  refine vm_r_cs2I rfl (by decide) (Nat.le_of_ble_eq_true rfl) (vm_Ex_le (by first | exact Nat.le_of_ble_eq_true rfl | omega) (c_SY_firstDifference (by omega) (by omega))) ?_
  refine vm_r_istore4 rfl rfl ?_
  refine vm_r_iload rfl rfl ?_
  refine vm_r_bipush rfl ?_
  refine vm_r_icmp_ne rfl (fun e => ?_) (fun e => ?_)
  · have hk := Classical.byContradiction fun q => e (vo_ge q)
    rw [if_pos hk]
    refine vm_r_aload_n rfl rfl rfl ?_
    refine vm_r_getR rfl (h.r3) ?_
    refine vm_r_aload_n rfl rfl rfl ?_
    refine vm_r_getR rfl (h.r1) ?_
    refine vm_r_cv2V rfl (by decide) (hp0.ob) (Nat.le_of_ble_eq_true rfl) (vm_Ex_le (by first | exact Nat.le_of_ble_eq_true rfl | omega) (c_SH_put hp0 h.t (by omega))) (fun μ1 q1 => ?_)
    obtain ⟨x1, f', a1⟩ := q1
    have h1 := h.pst (x1.wd (by omega) (by omega)) a1
    have hs := h1.t.setB (p := i) (vnr_ok (k := vfd (vd (tB (zT z) i)) (vd (tB (zT z) j))) hA hB) rfl
    refine vm_r_aload_n rfl rfl rfl ?_
    refine vm_r_iload_n rfl rfl rfl ?_
    refine vm_r_aload_n rfl rfl rfl ?_
    refine vm_r_iload_n rfl rfl rfl ?_
    refine vm_r_iaload rfl (h1.t.s.sB) (by omega) (by omega) (h1.t.vB hi) ?_
    refine vm_r_aload_n rfl rfl rfl ?_
    refine vm_r_iload_n rfl rfl rfl ?_
    refine vm_r_iaload rfl (h1.t.s.sB) (by omega) (by omega) (h1.t.vB hj) ?_
    refine vm_r_iload rfl rfl ?_
    refine vm_r_cs3I rfl (by decide) (Nat.le_of_ble_eq_true rfl) (vm_Ex_le (by first | exact Nat.le_of_ble_eq_true rfl | omega) (c_SY_nearer hA hB)) ?_
    refine vm_r_iastore rfl (h1.t.s.sB) (by omega) (by omega) ?_
    refine vm_r_iload rfl rfl ?_
    refine vm_r_ret rfl (fun h => by cases h) (⟨_, rfl, vo_lt hk, (x1.wd (by omega) (by omega)).tr (hs.2.x.wd (by omega) (by omega)), h1.twn (hs.2.x.wd (by omega) (by omega)) hs.1⟩)
  · have hk : ¬ _ < 5 := vo_none.mp (Classical.not_not.mp e)
    rw [if_neg hk]
    refine vm_r_bipush rfl ?_
    refine vm_r_ret rfl (fun h => by cases h) (vPG.pure h rfl)
theorem c_G_followA {i j : Nat} (h : vXS μ x z) (hi : i < tG (zT z)) (hj : j < tG (zT z)) : vm_Ex E 4 n_G_follow [.ref x, .ref (x + 3 + 3), .int (nI i), .int (nI j)] 0 0 μ
    (vPG μ x (if vfd (vd (tA (zT z) i)) (vd (tA (zT z) j)) < 5 then (nI (vfd (vd (tA (zT z) i)) (vd (tA (zT z) j))), zput z (vlis (zT z) i j)) else (-2, z))) := by
  have hG := h.t.ok.G5
  have hA := h.t.ok.A hi
  have hB := h.t.ok.A hj
  have hAl := hA.1
  have hBl := hB.1
  obtain ⟨fp, hp0⟩ := h.2.2.2.2.1
  refine vm_start (D := 3) (by decide) rfl (Nat.le_of_ble_eq_true rfl) (k := k_G_follow) rfl (L := [.ref x, .ref (x + 3 + 3), .int (nI i), .int (nI j), .retAddr 0]) rfl ?_
  refine vm_r_aload_n rfl rfl rfl ?_
  refine vm_r_iload_n rfl rfl rfl ?_
  refine vm_r_iaload rfl (h.t.s.sA) (by omega) (by omega) (h.t.vA hi) ?_
  refine vm_r_aload_n rfl rfl rfl ?_
  refine vm_r_iload_n rfl rfl rfl ?_
  refine vm_r_iaload rfl (h.t.s.sA) (by omega) (by omega) (h.t.vA hj) ?_
  refine vm_r_cs2I rfl (by decide) (Nat.le_of_ble_eq_true rfl) (vm_Ex_le (by first | exact Nat.le_of_ble_eq_true rfl | omega) (c_SY_firstDifference (by omega) (by omega))) ?_
  refine vm_r_istore4 rfl rfl ?_
  refine vm_r_iload rfl rfl ?_
  refine vm_r_bipush rfl ?_
  refine vm_r_icmp_ne rfl (fun e => ?_) (fun e => ?_)
  · have hk := Classical.byContradiction fun q => e (vo_ge q)
    rw [if_pos hk]
    refine vm_r_aload_n rfl rfl rfl ?_
    refine vm_r_getR rfl (h.r3) ?_
    refine vm_r_aload_n rfl rfl rfl ?_
    refine vm_r_getR rfl (h.r1) ?_
    refine vm_r_cv2V rfl (by decide) (hp0.ob) (Nat.le_of_ble_eq_true rfl) (vm_Ex_le (by first | exact Nat.le_of_ble_eq_true rfl | omega) (c_SH_put hp0 h.t (by omega))) (fun μ1 q1 => ?_)
    obtain ⟨x1, f', a1⟩ := q1
    have h1 := h.pst (x1.wd (by omega) (by omega)) a1
    have hs := h1.t.setA (g := i) (vnr_ok (k := vfd (vd (tA (zT z) i)) (vd (tA (zT z) j))) hA hB) rfl
    refine vm_r_aload_n rfl rfl rfl ?_
    refine vm_r_iload_n rfl rfl rfl ?_
    refine vm_r_aload_n rfl rfl rfl ?_
    refine vm_r_iload_n rfl rfl rfl ?_
    refine vm_r_iaload rfl (h1.t.s.sA) (by omega) (by omega) (h1.t.vA hi) ?_
    refine vm_r_aload_n rfl rfl rfl ?_
    refine vm_r_iload_n rfl rfl rfl ?_
    refine vm_r_iaload rfl (h1.t.s.sA) (by omega) (by omega) (h1.t.vA hj) ?_
    refine vm_r_iload rfl rfl ?_
    refine vm_r_cs3I rfl (by decide) (Nat.le_of_ble_eq_true rfl) (vm_Ex_le (by first | exact Nat.le_of_ble_eq_true rfl | omega) (c_SY_nearer hA hB)) ?_
    refine vm_r_iastore rfl (h1.t.s.sA) (by omega) (by omega) ?_
    refine vm_r_iload rfl rfl ?_
    refine vm_r_ret rfl (fun h => by cases h) (⟨_, rfl, vo_lt hk, (x1.wd (by omega) (by omega)).tr (hs.2.x.wd (by omega) (by omega)), h1.twn (hs.2.x.wd (by omega) (by omega)) hs.1⟩)
  · have hk : ¬ _ < 5 := vo_none.mp (Classical.not_not.mp e)
    rw [if_neg hk]
    refine vm_r_bipush rfl ?_
    refine vm_r_ret rfl (fun h => by cases h) (vPG.pure h rfl)
theorem c_G_talk (h : vXS μ x z) (p q : Int32) : vm_Ex E 5 n_G_talk [.ref x, .int p, .int q] 0 0 μ (vPG μ x (o_talk z p q)) := by
  have hP := h.t.ok.P6
  unfold o_talk
  refine vm_start (D := 4) (by decide) rfl (Nat.le_of_ble_eq_true rfl) (k := k_G_talk) rfl (L := [.ref x, .int p, .int q]) rfl ?_
  refine vm_r_aload_n rfl rfl rfl ?_
  refine vm_r_getR rfl (h.r1) ?_
  refine vm_r_iload_n rfl rfl rfl ?_
  refine vm_r_cv2I rfl (by decide) (h.t.s.ob) (Nat.le_of_ble_eq_true rfl) (vm_Ex_le (by first | exact Nat.le_of_ble_eq_true rfl | omega) (c_TN_isPerson h.t p)) ?_
  first | refine vm_r_if_eqB rfl (fun hp => ?_) (fun hp => ?_) | refine vm_r_if_eqN rfl (by omega) (fun hp => ?_) (fun hp => ?_) | refine vm_r_if_eq rfl (fun hp => ?_) (fun hp => ?_)
  · rw [if_neg (fun y => hp y.1)]
    refine vm_r_iconst rfl ?_
    refine vm_r_ret rfl (fun h => by cases h) (vPG.pure h rfl)
  · refine vm_r_aload_n rfl rfl rfl ?_
    refine vm_r_getR rfl (h.r1) ?_
    refine vm_r_iload_n rfl rfl rfl ?_
    refine vm_r_cv2I rfl (by decide) (h.t.s.ob) (Nat.le_of_ble_eq_true rfl) (vm_Ex_le (by first | exact Nat.le_of_ble_eq_true rfl | omega) (c_TN_isPerson h.t q)) ?_
    first | refine vm_r_if_eqB rfl (fun hq => ?_) (fun hq => ?_) | refine vm_r_if_eqN rfl (by omega) (fun hq => ?_) (fun hq => ?_) | refine vm_r_if_eq rfl (fun hq => ?_) (fun hq => ?_)
    · rw [if_neg (fun y => hq y.2.1)]
      refine vm_r_iconst rfl ?_
      refine vm_r_ret rfl (fun h => by cases h) (vPG.pure h rfl)
    · refine vm_r_iload_n rfl rfl rfl ?_
      refine vm_r_iload_n rfl rfl rfl ?_
      refine vm_r_icmp_ne rfl (fun e => ?_) (fun e => ?_)
      · rw [if_pos ⟨hp, hq, e⟩]
        obtain ⟨i, hi, rfl⟩ := vix_n (by omega) hp
        obtain ⟨j, hj, rfl⟩ := vix_n (by omega) hq
        rw [nn_nI (by omega), nn_nI (by omega)]
        refine vm_r_aload_n rfl rfl rfl ?_
        refine vm_r_aload_n rfl rfl rfl ?_
        refine vm_r_getR rfl (h.r1) ?_
        refine vm_r_getR rfl (h.t.s.rB) ?_
        refine vm_r_iload_n rfl rfl rfl ?_
        refine vm_r_iload_n rfl rfl rfl ?_
        refine vm_r_cv4X rfl (by decide) (h.ob) (Nat.le_of_ble_eq_true rfl) (vm_Ex_le (by first | exact Nat.le_of_ble_eq_true rfl | omega) (c_G_followB h hi hj)) (fun v1 μ1 q1 => ?_)
        refine vm_r_ret rfl (fun h => by cases h) (⟨_, rfl, q1⟩)
      · rw [if_neg (fun y => e y.2.2)]
        refine vm_r_iconst rfl ?_
        refine vm_r_ret rfl (fun h => by cases h) (vPG.pure h rfl)
theorem c_G_listen (h : vXS μ x z) (p q : Int32) : vm_Ex E 5 n_G_listen [.ref x, .int p, .int q] 0 0 μ (vPG μ x (o_listen z p q)) := by
  have hG := h.t.ok.G5
  unfold o_listen
  refine vm_start (D := 4) (by decide) rfl (Nat.le_of_ble_eq_true rfl) (k := k_G_listen) rfl (L := [.ref x, .int p, .int q]) rfl ?_
  refine vm_r_aload_n rfl rfl rfl ?_
  refine vm_r_getR rfl (h.r1) ?_
  refine vm_r_iload_n rfl rfl rfl ?_
  refine vm_r_cv2I rfl (by decide) (h.t.s.ob) (Nat.le_of_ble_eq_true rfl) (vm_Ex_le (by first | exact Nat.le_of_ble_eq_true rfl | omega) (c_TN_isGate h.t p)) ?_
  first | refine vm_r_if_eqB rfl (fun hp => ?_) (fun hp => ?_) | refine vm_r_if_eqN rfl (by omega) (fun hp => ?_) (fun hp => ?_) | refine vm_r_if_eq rfl (fun hp => ?_) (fun hp => ?_)
  · rw [if_neg (fun y => hp y.1)]
    refine vm_r_iconst rfl ?_
    refine vm_r_ret rfl (fun h => by cases h) (vPG.pure h rfl)
  · refine vm_r_aload_n rfl rfl rfl ?_
    refine vm_r_getR rfl (h.r1) ?_
    refine vm_r_iload_n rfl rfl rfl ?_
    refine vm_r_cv2I rfl (by decide) (h.t.s.ob) (Nat.le_of_ble_eq_true rfl) (vm_Ex_le (by first | exact Nat.le_of_ble_eq_true rfl | omega) (c_TN_isGate h.t q)) ?_
    first | refine vm_r_if_eqB rfl (fun hq => ?_) (fun hq => ?_) | refine vm_r_if_eqN rfl (by omega) (fun hq => ?_) (fun hq => ?_) | refine vm_r_if_eq rfl (fun hq => ?_) (fun hq => ?_)
    · rw [if_neg (fun y => hq y.2.1)]
      refine vm_r_iconst rfl ?_
      refine vm_r_ret rfl (fun h => by cases h) (vPG.pure h rfl)
    · refine vm_r_iload_n rfl rfl rfl ?_
      refine vm_r_iload_n rfl rfl rfl ?_
      refine vm_r_icmp_ne rfl (fun e => ?_) (fun e => ?_)
      · rw [if_pos ⟨hp, hq, e⟩]
        obtain ⟨i, hi, rfl⟩ := vix_n (by omega) hp
        obtain ⟨j, hj, rfl⟩ := vix_n (by omega) hq
        rw [nn_nI (by omega), nn_nI (by omega)]
        refine vm_r_aload_n rfl rfl rfl ?_
        refine vm_r_aload_n rfl rfl rfl ?_
        refine vm_r_getR rfl (h.r1) ?_
        refine vm_r_getR rfl (h.t.s.rA) ?_
        refine vm_r_iload_n rfl rfl rfl ?_
        refine vm_r_iload_n rfl rfl rfl ?_
        refine vm_r_cv4X rfl (by decide) (h.ob) (Nat.le_of_ble_eq_true rfl) (vm_Ex_le (by first | exact Nat.le_of_ble_eq_true rfl | omega) (c_G_followA h hi hj)) (fun v1 μ1 q1 => ?_)
        refine vm_r_ret rfl (fun h => by cases h) (⟨_, rfl, q1⟩)
      · rw [if_neg (fun y => e y.2.2)]
        refine vm_r_iconst rfl ?_
        refine vm_r_ret rfl (fun h => by cases h) (vPG.pure h rfl)
theorem c_G_undo (h : vXS μ x z) : vm_Ex E 3 n_G_undo [.ref x] 0 0 μ (vPG μ x (o_undo z)) := by
  obtain ⟨fp, hp0⟩ := h.2.2.2.2.1
  unfold o_undo
  refine vm_start (D := 2) (by decide) rfl (Nat.le_of_ble_eq_true rfl) (k := k_G_undo) rfl (L := [.ref x]) rfl ?_
  refine vm_r_aload_n rfl rfl rfl ?_
  refine vm_r_getR rfl (h.r3) ?_
  refine vm_r_aload_n rfl rfl rfl ?_
  refine vm_r_getR rfl (h.r1) ?_
  refine vm_r_cv2X rfl (by decide) (hp0.ob) (Nat.le_of_ble_eq_true rfl) (vm_Ex_le (by first | exact Nat.le_of_ble_eq_true rfl | omega) (c_SH_takeInto hp0 h.t.s (by omega))) (fun v1 μ1 q1 => ?_)
  rcases q1 with ⟨e, rfl, rfl⟩ | ⟨e, rfl, ⟨μ2, f1, t1, f2⟩, a1⟩
  · rw [if_neg (by omega)]
    refine vm_r_if_eq rfl (fun _ => ?_) (fun hn => absurd hn ((by decide)))
    refine vm_r_bipush rfl ?_
    refine vm_r_ret rfl (fun h => by cases h) (vPG.pure h rfl)
  · rw [if_pos e]
    have h1 := (h.twn (f1.x.wd (by omega) (by omega)) t1)
    have h2 := h1.pst (f2.wd (by omega) (by omega)) a1
    refine vm_r_if_eq rfl (fun hn => absurd hn ((by decide))) (fun _ => ?_)
    refine vm_r_aload_n rfl rfl rfl ?_
    refine vm_r_getR rfl (h2.r3) ?_
    refine vm_r_getI rfl (a1.gH) ?_
    refine vm_r_goto rfl ?_
    refine vm_r_ret rfl (fun h => by cases h) (⟨_, rfl, rfl, (f1.x.wd (by omega) (by omega)).tr (f2.wd (by omega) (by omega)), h2⟩)
end API2
