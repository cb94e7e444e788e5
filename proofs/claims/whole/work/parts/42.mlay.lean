/-! The model: an item, the whole text, fault and lay. -/
section MLAY
variable {E : vm_V} {μ μ' : vm_M} {m : Nat} {z : vZ} {T : vt_T}
theorem pG_no {x : Nat → Nat} {n a : Nat} (h : ¬ pL x n a = 103) : pG x n a = none := if_neg h
theorem pP_no {x : Nat → Nat} {n a : Nat} (h : ¬ pL x n a = 112) : pP x n a = none := if_neg h
theorem pSY_no {x : Nat → Nat} {n a : Nat} (h : pSY x n a = none) : ¬ (pSok x n a ∧ pL x n (a + 5) = 59) := by
  intro q
  unfold pSY at h
  rw [if_pos q] at h
  cases h
theorem c_M_item {a : Nat} (h : vM μ m z) (k : vOk z) (r : vRd μ m T) (hs : μ.2.1 m 15 = nI a) (ha : a < zn z) : vm_Ex E 3 n_M_item [.ref m] 0 0 μ (vm_PX (fun v μ' => vg μ μ' m ∧
    ((v = 0 ∧ ∀ f, pA (zx z) (zn z) (f + 1) T a = (some a, T)) ∨ ∃ T' a', v = 1 ∧ vRd μ' m T' ∧ μ'.2.1 m 15 = nI a' ∧ (a < a' ∧ a' ≤ 210) ∧ ∀ f, pA (zx z) (zn z) (f + 1) T a = pA (zx z) (zn z) f T' a'))) := by
  have hn := k.2.2.1.1
  have hp := pL_128 (k := a) k.2.2.1.2
  have f0 : vgr μ (vm_mI μ m 15 (nI (a + 1))) m := vgr.m15 (Or.inl rfl)
  have h0 := h.g f0.1
  have r0 := r.gr f0
  have bad : ∀ f, pG (zx z) (zn z) a = none → pP (zx z) (zn z) a = none → pA (zx z) (zn z) (f + 1) T a = (some a, T) := fun f e1 e2 => by
    rw [pA_s, if_pos ha, e1]
    simp only [e2]
  refine vm_start (D := 2) (by decide) rfl (Nat.le_of_ble_eq_true rfl) (k := k_M_item) rfl (L := [.ref m, .retAddr 0]) rfl ?_
  refine vm_r_aload_n rfl rfl rfl ?_
  refine vm_r_aload_n rfl rfl rfl ?_
  refine vm_r_getI rfl (h.1.g15 hs) ?_
  refine vm_r_cv2I rfl (by decide) (h.1.ob) (Nat.le_of_ble_eq_true rfl) (vm_Ex_le (by first | exact Nat.le_of_ble_eq_true rfl | omega) (c_M_letterAt h k (by omega))) ?_
  refine vm_r_istore_n1 rfl rfl rfl ?_
  refine vm_r_aload_n rfl rfl rfl ?_
  refine vm_r_dup rfl rfl ?_
  refine vm_r_getI rfl (h.1.g15 hs) ?_
  refine vm_r_iconst (kI := nI 1) rfl ?_
  first | refine vm_r_iaddN rfl ?_ | refine vm_r_iadd rfl ?_
  refine vm_r_putI rfl (h.1.w15) ?_
  refine vm_r_iload_n rfl rfl rfl ?_
  refine vm_r_bipush (kI := nI 103) rfl ?_
  first | refine vm_r_icmp_neN rfl (by omega) (by omega) (fun g => ?_) (fun g => ?_) | refine vm_r_icmp_ne rfl (fun g => ?_) (fun g => ?_)
  · refine vm_r_iload_n rfl rfl rfl ?_
    refine vm_r_bipush (kI := nI 112) rfl ?_
    first | refine vm_r_icmp_neN rfl (by omega) (by omega) (fun p => ?_) (fun p => ?_) | refine vm_r_icmp_ne rfl (fun p => ?_) (fun p => ?_)
    · refine vm_r_iconst (kI := nI 0) rfl ?_
      refine vm_r_ret rfl (fun _ => by first | exact vm_bi_01 _ | decide) (⟨_, rfl, f0.1, Or.inl ⟨rfl, fun f => bad f (pG_no (by omega)) (pP_no (by omega))⟩⟩)
    · have eg : pG (zx z) (zn z) a = none := pG_no (by omega)
      have ep : pP (zx z) (zn z) a = pSY (zx z) (zn z) (a + 1) := if_pos p
      refine vm_r_aload_n rfl rfl rfl ?_
      refine vm_r_cv1X rfl (by decide) (h0.1.ob) (Nat.le_of_ble_eq_true rfl) (vm_Ex_le (by first | exact Nat.le_of_ble_eq_true rfl | omega) (c_M_saying h0 k rI_eq (by omega))) (fun v1 μ1 q1 => ?_)
      obtain ⟨f1, -, q1⟩ := q1
      rcases q1 with ⟨rfl, e1⟩ | ⟨rfl, e1, e2, s1, g1⟩
      · refine vm_r_if_eq rfl (fun _ => ?_) (fun hn => absurd hn ((by decide)))
        refine vm_r_iconst (kI := nI 0) rfl ?_
        refine vm_r_ret rfl (fun _ => by first | exact vm_bi_01 _ | decide) (⟨_, rfl, (f0.tr f1).1, Or.inl ⟨rfl, fun f => bad f eg (ep.trans e1)⟩⟩)
      · have r1 := r0.gr f1
        have h1 := h0.g f1.1
        have es : pSY (zx z) (zn z) (a + 1) = some (vcn (pF (zx z) (zn z) (a + 1)) 5, a + 1 + 6) := if_pos ⟨e1, e2⟩
        have hA : ∀ f, pA (zx z) (zn z) (f + 1) T a = if tP T < 6 then pA (zx z) (zn z) f (vaP T (vcn (pF (zx z) (zn z) (a + 1)) 5)) (a + 1 + 6) else (some a, T) := fun f => by
          rw [pA_s, if_pos ha, eg]
          simp only [ep, es]
        obtain ⟨o1, o2⟩ := pS_ok e1
        have hd : ∀ k, k < 5 → pF (zx z) (zn z) (a + 1) k < 10 := fun k hk => by have := e1 k hk; unfold pF; omega
        have hP := r1.2.2.1.2.1
        refine vm_r_if_eq rfl (fun hn => absurd hn ((by decide))) (fun _ => ?_)
        refine vm_r_aload_n rfl rfl rfl ?_
        refine vm_r_getR rfl (h1.1.r3) ?_
        refine vm_r_iconst (kI := nI 1) rfl ?_
        refine vm_r_iaload rfl (h1.1.s3) (by omega) (by omega) (r1.1.2.1) ?_
        refine vm_r_bipush (kI := nI 6) rfl ?_
        first | refine vm_r_icmp_neN rfl (by omega) (by omega) (fun o => ?_) (fun o => ?_) | refine vm_r_icmp_ne rfl (fun o => ?_) (fun o => ?_)
        · refine vm_r_aload_n rfl rfl rfl ?_
          refine vm_r_aload_n rfl rfl rfl ?_
          refine vm_r_getI rfl (h1.1.g17 g1) ?_
          refine vm_r_cv2V rfl (by decide) (h1.1.ob) (Nat.le_of_ble_eq_true rfl) (vm_Ex_le (by first | exact Nat.le_of_ble_eq_true rfl | omega) (c_M_personIs h1.1 r1 (by omega) (Nat.lt_trans (fgs_lt 5 hd) (by decide)) o1 (fun k hk => (fgs_d hd k hk).trans (o2 k hk).symm))) (fun μ2 q2 => ?_)
          obtain ⟨f2, r2⟩ := q2
          refine vm_r_iconst (kI := nI 1) rfl ?_
          refine vm_r_ret rfl (fun _ => by first | exact vm_bi_01 _ | decide) (⟨_, rfl, (f0.tr f1).1.tr (f2.g (by omega)), Or.inr ⟨_, a + 1 + 6, rfl, r2, by rw [f2.2.2 _ (by omega)]; exact s1, ⟨by omega, by omega⟩, fun f => by rw [hA, if_pos (by omega)]⟩⟩)
        · refine vm_r_iconst (kI := nI 0) rfl ?_
          refine vm_r_ret rfl (fun _ => by first | exact vm_bi_01 _ | decide) (⟨_, rfl, (f0.tr f1).1, Or.inl ⟨rfl, fun f => by rw [hA, if_neg (by omega)]⟩⟩)
  · have ep : pP (zx z) (zn z) a = none := pP_no (by omega)
    refine vm_r_aload_n rfl rfl rfl ?_
    refine vm_r_cv1X rfl (by decide) (h0.1.ob) (Nat.le_of_ble_eq_true rfl) (vm_Ex_le (by first | exact Nat.le_of_ble_eq_true rfl | omega) (c_M_numbers h0 k rI_eq (by omega))) (fun v1 μ1 q1 => ?_)
    obtain ⟨f1, q1⟩ := q1
    have h1 := h0.g f1.1
    have r1 := r0.gr f1
    rcases q1 with ⟨rfl, e1⟩ | ⟨kd, a1, er, a2, e1, e2, rfl, b1, b2, b3, b4, s1, n1, n2⟩
    · have eg : pG (zx z) (zn z) a = none := by
        unfold pG
        rw [if_pos g]
        rcases e1 with e1 | ⟨kd, a1, e1, e2⟩
        · rw [e1]
        · rw [e1]
          simp only [e2]
          split <;> rfl
      refine vm_r_if_eq rfl (fun _ => ?_) (fun hn => absurd hn ((by decide)))
      refine vm_r_iconst (kI := nI 0) rfl ?_
      refine vm_r_ret rfl (fun _ => by first | exact vm_bi_01 _ | decide) (⟨_, rfl, (f0.tr f1).1, Or.inl ⟨rfl, fun f => bad f eg ep⟩⟩)
    · have hg : pG (zx z) (zn z) a = if kd ≤ 3 then (if er ≤ 40 then (match pSY (zx z) (zn z) a2 with
        | none => none
        | some (c, a3) => some ((kd, er, c), a3)) else none) else none := by
        unfold pG
        rw [if_pos g, e1]
        simp only [e2]
        cases pSY (zx z) (zn z) a2 <;> rfl
      refine vm_r_if_eq rfl (fun hn => absurd hn ((by decide))) (fun _ => ?_)
      refine vm_r_aload_n rfl rfl rfl ?_
      refine vm_r_cv1X rfl (by decide) (h1.1.ob) (Nat.le_of_ble_eq_true rfl) (vm_Ex_le (by first | exact Nat.le_of_ble_eq_true rfl | omega) (c_M_saying h1 k s1 b4)) (fun v2 μ2 q2 => ?_)
      obtain ⟨f2, m2, q2⟩ := q2
      rcases q2 with ⟨rfl, e3⟩ | ⟨rfl, e3, e4, s2, g2⟩
      · have eg : pG (zx z) (zn z) a = none := by
          rw [hg, e3]
          split
          · split <;> rfl
          · rfl
        refine vm_r_if_eq rfl (fun _ => ?_) (fun hn => absurd hn ((by decide)))
        refine vm_r_iconst (kI := nI 0) rfl ?_
        refine vm_r_ret rfl (fun _ => by first | exact vm_bi_01 _ | decide) (⟨_, rfl, ((f0.tr f1).tr f2).1, Or.inl ⟨rfl, fun f => bad f eg ep⟩⟩)
      · have r2 := r1.gr f2
        have h2 := h1.g f2.1
        have es : pSY (zx z) (zn z) a2 = some (vcn (pF (zx z) (zn z) a2) 5, a2 + 6) := if_pos ⟨e3, e4⟩
        have n1' : μ2.2.1 (m + 11) 0 = nI kd := by rw [m2]; exact n1
        have n2' : μ2.2.1 (m + 11) 1 = nI er := by rw [m2]; exact n2
        obtain ⟨o1, o2⟩ := pS_ok e3
        have hd : ∀ k, k < 5 → pF (zx z) (zn z) a2 k < 10 := fun k hk => by have := e3 k hk; unfold pF; omega
        have hG := r2.2.2.1.1
        refine vm_r_if_eq rfl (fun hn => absurd hn ((by decide))) (fun _ => ?_)
        refine vm_r_aload_n rfl rfl rfl ?_
        refine vm_r_getR rfl (h2.1.r3) ?_
        refine vm_r_iconst (kI := nI 0) rfl ?_
        refine vm_r_iaload rfl (h2.1.s3) (by omega) (by omega) (r2.1.1) ?_
        refine vm_r_iconst (kI := nI 5) rfl ?_
        first | refine vm_r_icmp_eqN rfl (by omega) (by omega) (fun c => ?_) (fun c => ?_) | refine vm_r_icmp_eq rfl (fun c => ?_) (fun c => ?_)
        · by_cases w : kd ≤ 3 ∧ er ≤ 40
          · rw [es, if_pos w.1, if_pos w.2] at hg
            refine vm_r_iconst (kI := nI 0) rfl ?_
            refine vm_r_ret rfl (fun _ => by first | exact vm_bi_01 _ | decide) (⟨_, rfl, ((f0.tr f1).tr f2).1, Or.inl ⟨rfl, fun f => by rw [pA_s, if_pos ha, hg]; exact if_neg (by omega)⟩⟩)
          · have eg : pG (zx z) (zn z) a = none := by
              rw [hg]
              split
              · split
                · exact absurd ⟨by assumption, by assumption⟩ w
                · rfl
              · rfl
            refine vm_r_iconst (kI := nI 0) rfl ?_
            refine vm_r_ret rfl (fun _ => by first | exact vm_bi_01 _ | decide) (⟨_, rfl, ((f0.tr f1).tr f2).1, Or.inl ⟨rfl, fun f => bad f eg ep⟩⟩)
        · refine vm_r_aload_n rfl rfl rfl ?_
          refine vm_r_getR rfl (h2.1.r11) ?_
          refine vm_r_iconst (kI := nI 0) rfl ?_
          refine vm_r_iaload rfl (h2.1.s11) (by omega) (by omega) (n1') ?_
          refine vm_r_iconst (kI := nI 3) rfl ?_
          first | refine vm_r_icmp_gtN rfl (by omega) (by omega) (fun x => ?_) (fun x => ?_) | refine vm_r_icmp_gt rfl (fun x => ?_) (fun x => ?_)
          · have eg : pG (zx z) (zn z) a = none := by
              rw [hg, if_neg (by omega)]
            refine vm_r_iconst (kI := nI 0) rfl ?_
            refine vm_r_ret rfl (fun _ => by first | exact vm_bi_01 _ | decide) (⟨_, rfl, ((f0.tr f1).tr f2).1, Or.inl ⟨rfl, fun f => bad f eg ep⟩⟩)
          · refine vm_r_aload_n rfl rfl rfl ?_
            refine vm_r_getR rfl (h2.1.r11) ?_
            refine vm_r_iconst (kI := nI 1) rfl ?_
            refine vm_r_iaload rfl (h2.1.s11) (by omega) (by omega) (n2') ?_
            refine vm_r_bipush (kI := nI 40) rfl ?_
            first | refine vm_r_icmp_leN rfl (by omega) (by omega) (fun y => ?_) (fun y => ?_) | refine vm_r_icmp_le rfl (fun y => ?_) (fun y => ?_)
            · rw [es, if_pos (by omega), if_pos (by omega)] at hg
              refine vm_r_aload_n rfl rfl rfl ?_
              refine vm_r_aload_n rfl rfl rfl ?_
              refine vm_r_getR rfl (h2.1.r11) ?_
              refine vm_r_iconst (kI := nI 0) rfl ?_
              refine vm_r_iaload rfl (h2.1.s11) (by omega) (by omega) (n1') ?_
              refine vm_r_aload_n rfl rfl rfl ?_
              refine vm_r_getR rfl (h2.1.r11) ?_
              refine vm_r_iconst (kI := nI 1) rfl ?_
              refine vm_r_iaload rfl (h2.1.s11) (by omega) (by omega) (n2') ?_
              refine vm_r_aload_n rfl rfl rfl ?_
              refine vm_r_getI rfl (h2.1.g17 g2) ?_
              refine vm_r_cv4V rfl (by decide) (h2.1.ob) (Nat.le_of_ble_eq_true rfl) (vm_Ex_le (by first | exact Nat.le_of_ble_eq_true rfl | omega) (c_M_gateIs h2.1 r2 (by omega) (by omega) (by omega) (Nat.lt_trans (fgs_lt 5 hd) (by decide)) o1 (fun k hk => (fgs_d hd k hk).trans (o2 k hk).symm))) (fun μ3 q3 => ?_)
              obtain ⟨f3, r3⟩ := q3
              refine vm_r_iconst (kI := nI 1) rfl ?_
              refine vm_r_ret rfl (fun _ => by first | exact vm_bi_01 _ | decide) (⟨_, rfl, ((f0.tr f1).tr f2).1.tr (f3.g (by omega)), Or.inr ⟨_, a2 + 6, rfl, r3, by rw [f3.2.2 _ (by omega)]; exact s2, ⟨by omega, by omega⟩, fun f => by rw [pA_s, if_pos ha, hg]; exact if_pos (by omega)⟩⟩)
            · have eg : pG (zx z) (zn z) a = none := by
                rw [hg, if_pos (by omega), if_neg (by omega)]
              refine vm_r_iconst (kI := nI 0) rfl ?_
              refine vm_r_ret rfl (fun _ => by first | exact vm_bi_01 _ | decide) (⟨_, rfl, ((f0.tr f1).tr f2).1, Or.inl ⟨rfl, fun f => bad f eg ep⟩⟩)
theorem c_M_readAll (h : vM μ m z) (k : vOk z) : vm_Ex E 4 n_M_readAll [.ref m] 0 0 μ (vm_PX (fun v μ' => v = pZ (zA z).1 ∧ vg μ μ' m ∧ ((zA z).1 = none → vRd μ' m (zA z).2))) := by
  have hn := k.2.2.1.1
  refine vm_start (D := 3) (by decide) rfl (Nat.le_of_ble_eq_true rfl) (k := k_M_readAll) rfl (L := [.ref m, .retAddr 0]) rfl ?_
  refine vm_r_aload_n rfl rfl rfl ?_
  refine vm_r_cv1V rfl (by decide) (h.1.ob) (Nat.le_of_ble_eq_true rfl) (vm_Ex_le (by first | exact Nat.le_of_ble_eq_true rfl | omega) (c_M_empty h.1)) (fun μ1 q1 => ?_)
  obtain ⟨f1, r1⟩ := q1
  have h1 := h.g (f1.g (by omega))
  have f2 : vgr μ1 (vm_mI μ1 m 15 (nI 0)) m := vgr.m15 (Or.inl rfl)
  have go : ∀ (f a : Nat) (T : vt_T) (μ' : vm_M) (v : Value), zn z - a ≤ f → vg μ μ' m → vRd μ' m T → μ'.2.1 m 15 = nI a → a ≤ 210 → pA (zx z) (zn z) 200 vt0 0 = pA (zx z) (zn z) f T a → vm_W E (vm_Ex E 3) k_M_readAll (vm_PX (fun v μ' => v = pZ (zA z).1 ∧ vg μ μ' m ∧ ((zA z).1 = none → vRd μ' m (zA z).2))) (9, [.ref m, v], [], 0, 0, μ') := by
    intro f
    induction f with
    | zero =>
      intro a T μ' v hf g r s ha e
      have h' := h.g g
      have ez : zA z = (none, T) := e
      refine vm_r_aload_n rfl rfl rfl ?_
      refine vm_r_getI rfl (h'.1.g15 s) ?_
      refine vm_r_aload_n rfl rfl rfl ?_
      refine vm_r_getI rfl (h'.1.g0 h'.2.1.1) ?_
      first | refine vm_r_icmp_geN rfl (by omega) (by omega) (fun _ => ?_) (fun hn => absurd hn (by omega)) | refine vm_r_icmp_ge rfl (fun _ => ?_) (fun hn => absurd hn (by omega))
      refine vm_r_bipush rfl ?_
      refine vm_r_ret rfl (fun h => by cases h) (⟨_, rfl, by rw [ez]; rfl, g, fun _ => by rw [ez]; exact r⟩)
    | succ f ih =>
      intro a T μ' v hf g r s ha e
      have h' := h.g g
      by_cases w : a < zn z
      · refine vm_r_aload_n rfl rfl rfl ?_
        refine vm_r_getI rfl (h'.1.g15 s) ?_
        refine vm_r_aload_n rfl rfl rfl ?_
        refine vm_r_getI rfl (h'.1.g0 h'.2.1.1) ?_
        first | refine vm_r_icmp_geN rfl (by omega) (by omega) (fun hn => absurd hn (by omega)) (fun _ => ?_) | refine vm_r_icmp_ge rfl (fun hn => absurd hn (by omega)) (fun _ => ?_)
        refine vm_r_aload_n rfl rfl rfl ?_
        refine vm_r_getI rfl (h'.1.g15 s) ?_
        refine vm_r_istore_n1 rfl rfl rfl ?_
        refine vm_r_aload_n rfl rfl rfl ?_
        refine vm_r_cv1X rfl (by decide) (h'.1.ob) (Nat.le_of_ble_eq_true rfl) (vm_Ex_le (by first | exact Nat.le_of_ble_eq_true rfl | omega) (c_M_item h' k r s w)) (fun v2 μ2 q2 => ?_)
        obtain ⟨g2, q2⟩ := q2
        rcases q2 with ⟨rfl, e2⟩ | ⟨T', a', rfl, r2, s2, ⟨l1, l2⟩, e2⟩
        · have ez : zA z = (some a, T) := e.trans (e2 f)
          refine vm_r_if_ne rfl (fun hn => absurd hn ((by decide))) (fun _ => ?_)
          refine vm_r_iload_n rfl rfl rfl ?_
          refine vm_r_ret rfl (fun h => by cases h) (⟨_, rfl, by rw [ez]; rfl, g.tr g2, fun y => by rw [ez] at y; cases y⟩)
        · refine vm_r_if_ne rfl (fun _ => ?_) (fun hn => absurd hn ((by decide)))
          refine vm_r_goto rfl ?_
          exact ih a' T' μ2 _ (by omega) (g.tr g2) r2 s2 l2 (e.trans (e2 f))
      · have ez : zA z = (none, T) := e.trans (by rw [pA_s, if_neg w])
        refine vm_r_aload_n rfl rfl rfl ?_
        refine vm_r_getI rfl (h'.1.g15 s) ?_
        refine vm_r_aload_n rfl rfl rfl ?_
        refine vm_r_getI rfl (h'.1.g0 h'.2.1.1) ?_
        first | refine vm_r_icmp_geN rfl (by omega) (by omega) (fun _ => ?_) (fun hn => absurd hn (by omega)) | refine vm_r_icmp_ge rfl (fun _ => ?_) (fun hn => absurd hn (by omega))
        refine vm_r_bipush rfl ?_
        refine vm_r_ret rfl (fun h => by cases h) (⟨_, rfl, by rw [ez]; rfl, g, fun _ => by rw [ez]; exact r⟩)
  refine vm_r_aload_n rfl rfl rfl ?_
  refine vm_r_iconst (kI := nI 0) rfl ?_
  refine vm_r_putI rfl (h1.1.w15) ?_
  exact go 200 0 vt0 _ _ (by omega) ((f1.g (by omega)).tr f2.1) (r1.gr f2) rI_eq (by omega) rfl
theorem c_M_fault (h : vM μ m z) (k : vOk z) : vm_Ex E 5 n_M_fault [.ref m] 0 0 μ (vPM μ m (o_fault z)) := by
  refine vm_start (D := 4) (by decide) rfl (Nat.le_of_ble_eq_true rfl) (k := k_M_fault) rfl (L := [.ref m]) rfl ?_
  refine vm_r_aload_n rfl rfl rfl ?_
  refine vm_r_cv1X rfl (by decide) (h.1.ob) (Nat.le_of_ble_eq_true rfl) (vm_Ex_le (by first | exact Nat.le_of_ble_eq_true rfl | omega) (c_M_readAll h k)) (fun v1 μ1 q1 => ?_)
  obtain ⟨rfl, g, -⟩ := q1
  refine vm_r_ret rfl (fun h => by cases h) (vPM.g h g rfl)
theorem c_M_begin {n : Nat} {x : Nat → Nat} {Q R : Nat → vt_T} {W : vw_T} (h0 : vMh μ.1 m) (r : vRd μ m T) (hx : μ.2.1 m 0 = nI n ∧ ∀ j, j < n → μ.2.1 (m + 1) j = nI (x j)) : vm_Ex E 1 n_M_begin [.ref m] 0 0 μ (vm_PV (fun μ' => vx μ μ' m (m + 15) ∧ vM μ' m (T, (0, Q), (0, R), vw0 W, (n, x)))) := by
  have hG := r.2.2.1.1
  refine vm_start (D := 0) (by decide) rfl (Nat.le_of_ble_eq_true rfl) (k := k_M_begin) rfl (L := [.ref m, .retAddr 0]) rfl ?_
  refine vm_r_iconst (kI := nI 0) rfl ?_
  refine vm_r_istore_n1 rfl rfl rfl ?_
  refine vm_up (P := fun i => ∀ μ1 : vm_M, vf μ μ1 (m + 2) (m + 2) → (∀ k, k < i → μ1.2.1 (m + 2) k = μ.2.1 (m + 3) k) → vm_W E (vm_Ex E 0) k_M_begin _ (2, [.ref m, .int (nI i)], [], 0, 0, μ1)) (N := 12) ?_ ?_ 0 (by omega) μ vf.rf (fun k hk => by omega)
  · intro μ1 f e1
    refine vm_r_iload_n rfl rfl rfl ?_
    refine vm_r_bipush (kI := nI 12) rfl ?_
    first | refine vm_r_icmp_geN rfl (by omega) (by omega) (fun _ => ?_) (fun hn => absurd hn (by omega)) | refine vm_r_icmp_ge rfl (fun _ => ?_) (fun hn => absurd hn (by omega))
    refine vm_r_iconst (kI := nI 0) rfl ?_
    refine vm_r_istore_n1 rfl rfl rfl ?_
    refine vm_up (P := fun i => ∀ μ2 : vm_M, vf μ1 μ2 (m + 5) (m + 5) → (∀ k, k < i → μ2.2.1 (m + 5) k = μ.2.1 (m + 4) k) → vm_W E (vm_Ex E 0) k_M_begin _ (28, [.ref m, .int (nI i)], [], 0, 0, μ2)) (N := 63) ?_ ?_ 0 (by omega) μ1 vf.rf (fun k hk => by omega)
    · intro μ2 f2 e2
      have h2 : vMh μ2.1 m := by rw [f2.1, f.1]; exact h0
      have g : ∀ o, o ≠ m → o ≠ m + 2 → o ≠ m + 5 → (vm_mI (vm_mI (vm_mI (vm_mI μ2 m 12 (nI 0)) m 14 (nI 0)) m 8 (nI 0)) m 10 (nI 0)).2.1 o = μ.2.1 o := fun o o1 o2 o3 => by rw [rI_no2 o1, rI_no2 o1, rI_no2 o1, rI_no2 o1, f2.2.2 _ (by omega), f.2.2 _ (by omega)]
      refine vm_r_iload_n rfl rfl rfl ?_
      refine vm_r_bipush (kI := nI 63) rfl ?_
      first | refine vm_r_icmp_geN rfl (by omega) (by omega) (fun _ => ?_) (fun hn => absurd hn (by omega)) | refine vm_r_icmp_ge rfl (fun _ => ?_) (fun hn => absurd hn (by omega))
      refine vm_r_aload_n rfl rfl rfl ?_
      refine vm_r_iconst (kI := nI 0) rfl ?_
      refine vm_r_putI rfl (h2.w12) ?_
      refine vm_r_aload_n rfl rfl rfl ?_
      refine vm_r_iconst (kI := nI 0) rfl ?_
      refine vm_r_putI rfl (h2.w14) ?_
      refine vm_r_aload_n rfl rfl rfl ?_
      refine vm_r_iconst (kI := nI 0) rfl ?_
      refine vm_r_putI rfl (h2.w8) ?_
      refine vm_r_aload_n rfl rfl rfl ?_
      refine vm_r_iconst (kI := nI 0) rfl ?_
      refine vm_r_putI rfl (h2.w10) ?_
      refine vm_r_vret rfl (⟨rfl, ?_, h2, vMI.mk ⟨?_, ?_⟩ ⟨?_, ?_, ?_⟩ ?_ ⟨?_, ?_⟩ ⟨?_, ?_⟩ ⟨?_, ?_⟩ ⟨?_, ?_⟩⟩)
      · exact ((((((f.wd (by omega) (by omega)).tr (f2.wd (by omega) (by omega))).tr (vf.mI (Nat.le_refl m) (by omega) : vf _ _ m (m + 15))).tr (vf.mI (Nat.le_refl m) (by omega))).tr (vf.mI (Nat.le_refl m) (by omega))).tr (vf.mI (Nat.le_refl m) (by omega))).x
      · rw [rI_nk (by omega), rI_nk (by omega), rI_nk (by omega), rI_nk (by omega), f2.2.2 _ (by omega), f.2.2 _ (by omega)]
        exact hx.1
      · intro j hj
        rw [g _ (by omega) (by omega) (by omega)]
        exact hx.2 j hj
      · rw [rI_no (by omega), rI_no (by omega), rI_no (by omega), rI_no (by omega), f2.2.2 _ (by omega), e1 _ (by omega)]
        exact r.1.1
      · rw [rI_no (by omega), rI_no (by omega), rI_no (by omega), rI_no (by omega), f2.2.2 _ (by omega), e1 _ (by omega)]
        exact r.1.2.1
      · intro q hq
        have hq : q < tG T := hq
        rw [rI_no (by omega), rI_no (by omega), rI_no (by omega), rI_no (by omega), f2.2.2 _ (by omega), e1 _ (by omega), rI_no (by omega), rI_no (by omega), rI_no (by omega), rI_no (by omega), f2.2.2 _ (by omega), e1 _ (by omega)]
        exact r.1.2.2 q hq
      · rw [rI_no2 (by omega), rI_no2 (by omega), rI_no2 (by omega), rI_no2 (by omega)]
        exact r.2.1.cong r.2.2.1 e2
      · rw [rI_nk (by omega), rI_eq]
        rfl
      · intro j hj
        have hj : j < 0 := hj
        omega
      · exact rI_eq
      · intro j hj
        have hj : j < 0 := hj
        omega
      · rw [rI_nk (by omega), rI_nk (by omega), rI_nk (by omega), rI_eq]
        rfl
      · intro j hj
        have hj : j < 0 := hj
        omega
      · rw [rI_nk (by omega), rI_nk (by omega), rI_eq]
        rfl
      · intro j hj
        have hj : j < 0 := hj
        omega
    · intro i hi ih μ2 f2 e2
      have h2 : vMh μ2.1 m := by rw [f2.1, f.1]; exact h0
      refine vm_r_iload_n rfl rfl rfl ?_
      refine vm_r_bipush (kI := nI 63) rfl ?_
      first | refine vm_r_icmp_geN rfl (by omega) (by omega) (fun hn => absurd hn (by omega)) (fun _ => ?_) | refine vm_r_icmp_ge rfl (fun hn => absurd hn (by omega)) (fun _ => ?_)
      refine vm_r_aload_n rfl rfl rfl ?_
      refine vm_r_getR rfl (h2.r5) ?_
      refine vm_r_iload_n rfl rfl rfl ?_
      refine vm_r_aload_n rfl rfl rfl ?_
      refine vm_r_getR rfl (h2.r4) ?_
      refine vm_r_iload_n rfl rfl rfl ?_
      refine vm_r_iaload rfl (h2.s4) (by omega) (by omega) (rfl) ?_
      refine vm_r_iastore rfl (h2.s5) (by omega) (by omega) ?_
      first | refine vm_r_iinc1N (y := 1) rfl rfl ?_ | refine vm_r_iinc1 rfl rfl ?_
      refine vm_r_goto rfl ?_
      refine ih _ (f2.tr (vf.mI (Nat.le_refl _) (Nat.le_refl _))) (fun k hk => ?_)
      by_cases y : k = i
      · subst y
        rw [rI_eq, f2.2.2 _ (by omega), f.2.2 _ (by omega)]
      · rw [rI_nk y]
        exact e2 k (by omega)
  · intro i hi ih μ1 f e1
    have h1 : vMh μ1.1 m := by rw [f.1]; exact h0
    refine vm_r_iload_n rfl rfl rfl ?_
    refine vm_r_bipush (kI := nI 12) rfl ?_
    first | refine vm_r_icmp_geN rfl (by omega) (by omega) (fun hn => absurd hn (by omega)) (fun _ => ?_) | refine vm_r_icmp_ge rfl (fun hn => absurd hn (by omega)) (fun _ => ?_)
    refine vm_r_aload_n rfl rfl rfl ?_
    refine vm_r_getR rfl (h1.r2) ?_
    refine vm_r_iload_n rfl rfl rfl ?_
    refine vm_r_aload_n rfl rfl rfl ?_
    refine vm_r_getR rfl (h1.r3) ?_
    refine vm_r_iload_n rfl rfl rfl ?_
    refine vm_r_iaload rfl (h1.s3) (by omega) (by omega) (rfl) ?_
    refine vm_r_iastore rfl (h1.s2) (by omega) (by omega) ?_
    first | refine vm_r_iinc1N (y := 1) rfl rfl ?_ | refine vm_r_iinc1 rfl rfl ?_
    refine vm_r_goto rfl ?_
    refine ih _ (f.tr (vf.mI (Nat.le_refl _) (Nat.le_refl _))) (fun k hk => ?_)
    by_cases y : k = i
    · subst y
      rw [rI_eq, f.2.2 _ (by omega)]
    · rw [rI_nk y]
      exact e1 k (by omega)
theorem c_M_lay (h : vM μ m z) (k : vOk z) : vm_Ex E 5 n_M_lay [.ref m] 0 0 μ (vPM μ m (o_lay z)) := by
  have hn := k.2.2.1.1
  unfold o_lay
  refine vm_start (D := 4) (by decide) rfl (Nat.le_of_ble_eq_true rfl) (k := k_M_lay) rfl (L := [.ref m]) rfl ?_
  refine vm_r_aload_n rfl rfl rfl ?_
  refine vm_r_cv1X rfl (by decide) (h.1.ob) (Nat.le_of_ble_eq_true rfl) (vm_Ex_le (by first | exact Nat.le_of_ble_eq_true rfl | omega) (c_M_readAll h k)) (fun v1 μ1 q1 => ?_)
  obtain ⟨rfl, g, r⟩ := q1
  have h1 := h.g g
  have hlt : ∀ b, (zA z).1 = some b → b < zn z := fun b hb => pA_lt 200 vt0 0 b hb
  generalize zA z = A at *
  obtain ⟨o, U⟩ := A
  have no : ¬ (o = none ∧ 0 < tG U ∧ 0 < tP U) → vPM μ m (if o = none ∧ 0 < tG U ∧ 0 < tP U then (nI (tP U), (U, (0, zQ z), (0, zR z), vw0 (zW z), (zn z, zx z))) else (-2, z)) (some (.int (-2))) μ1 := fun q => ⟨_, rfl, by rw [if_neg q], g.x, by rw [if_neg q]; exact h1⟩
  cases o with
  | some b =>
    have hb := hlt b rfl
    refine vm_r_bipush rfl ?_
    refine vm_r_icmp_ne rfl (fun _ => ?_) (fun hn => absurd hn ((not_not_intro (show ¬ nI b = -4 from v_nI4 (by omega)))))
    refine vm_r_bipush rfl ?_
    refine vm_r_ret rfl (fun h => by cases h) (no (fun q => by cases q.1))
  | none =>
    have r1 : vRd μ1 m U := r rfl
    have hG := r1.2.2.1.1
    have hP := r1.2.2.1.2.1
    refine vm_r_bipush rfl ?_
    refine vm_r_icmp_ne rfl (fun hn => absurd hn ((not_not_intro rfl))) (fun _ => ?_)
    refine vm_r_aload_n rfl rfl rfl ?_
    refine vm_r_getR rfl (h1.1.r3) ?_
    refine vm_r_iconst (kI := nI 0) rfl ?_
    refine vm_r_iaload rfl (h1.1.s3) (by omega) (by omega) (r1.1.1) ?_
    first | refine vm_r_if_eqB rfl (fun e => ?_) (fun e => ?_) | refine vm_r_if_eqN rfl (by omega) (fun e => ?_) (fun e => ?_) | refine vm_r_if_eq rfl (fun e => ?_) (fun e => ?_)
    · refine vm_r_bipush rfl ?_
      refine vm_r_ret rfl (fun h => by cases h) (no (fun q => by omega))
    · refine vm_r_aload_n rfl rfl rfl ?_
      refine vm_r_getR rfl (h1.1.r3) ?_
      refine vm_r_iconst (kI := nI 1) rfl ?_
      refine vm_r_iaload rfl (h1.1.s3) (by omega) (by omega) (r1.1.2.1) ?_
      first | refine vm_r_if_neB rfl (fun f => ?_) (fun f => ?_) | refine vm_r_if_neN rfl (by omega) (fun f => ?_) (fun f => ?_) | refine vm_r_if_ne rfl (fun f => ?_) (fun f => ?_)
      · rw [if_pos (show (none : Option Nat) = none ∧ 0 < tG U ∧ 0 < tP U from ⟨rfl, by omega, by omega⟩)]
        refine vm_r_aload_n rfl rfl rfl ?_
        refine vm_r_cv1V rfl (by decide) (h1.1.ob) (Nat.le_of_ble_eq_true rfl) (vm_Ex_le (by first | exact Nat.le_of_ble_eq_true rfl | omega) (c_M_begin (n := zn z) (x := zx z) (Q := zQ z) (R := zR z) (W := zW z) h1.1 r1 h1.2.1)) (fun μ2 q2 => ?_)
        obtain ⟨x2, h2⟩ := q2
        refine vm_r_aload_n rfl rfl rfl ?_
        refine vm_r_getR rfl (h2.1.r2) ?_
        refine vm_r_iconst (kI := nI 1) rfl ?_
        refine vm_r_iaload rfl (h2.1.s2) (by omega) (by omega) (h2.2.2.1.2.1) ?_
        refine vm_r_ret rfl (fun h => by cases h) (⟨_, rfl, rfl, g.x.tr x2, h2⟩)
      · refine vm_r_bipush rfl ?_
        refine vm_r_ret rfl (fun h => by cases h) (no (fun q => by omega))
end MLAY
