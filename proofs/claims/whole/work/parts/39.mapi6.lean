/-! The model: chance, years. -/
section MAPI6
variable {E : vm_V} {μ μ' : vm_M} {m : Nat} {z : vZ} {T : vt_T}
theorem c_M_goDrawn {w : Nat} (hw : w < 2 ^ 31) (s : vSd μ m T) (hG0 : 0 < tG T) (hP0 : 0 < tP T) : vm_Ex E 6 n_M_goDrawn [.ref m, .int (nI w)] 0 0 μ (vm_PV (fun μ' => vg μ μ' m ∧ vSd μ' m (vlive T w))) := by
  have hG := s.2.2.2.1
  have hP := s.2.2.2.2.1
  have hp : w % tP T < tP T := Nat.mod_lt _ hP0
  have hq : (w % tP T + 1) % tP T < tP T := Nat.mod_lt _ hP0
  have hg : w / 8 % tG T < tG T := Nat.mod_lt _ hG0
  have h4 := Nat.mod_lt (w / 64) (show 0 < 4 by decide)
  refine vm_start (D := 5) (by decide) rfl (Nat.le_of_ble_eq_true rfl) (k := k_M_goDrawn) rfl (L := [.ref m, .int (nI w), .retAddr 0, .retAddr 0]) rfl ?_
  refine vm_r_iload_n rfl rfl rfl ?_
  refine vm_r_aload_n rfl rfl rfl ?_
  refine vm_r_getR rfl (s.1.r2) ?_
  refine vm_r_iconst (kI := nI 1) rfl ?_
  refine vm_r_iaload rfl (s.1.s2) (by omega) (by omega) (s.2.1.2.1) ?_
  refine vm_r_iremN rfl (by omega) (by omega) (by omega) ?_
  refine vm_r_istore_n2 rfl rfl rfl ?_
  refine vm_r_iload_n rfl rfl rfl ?_
  refine vm_r_iconst (kI := nI 1) rfl ?_
  first | refine vm_r_iaddN rfl ?_ | refine vm_r_iadd rfl ?_
  refine vm_r_aload_n rfl rfl rfl ?_
  refine vm_r_getR rfl (s.1.r2) ?_
  refine vm_r_iconst (kI := nI 1) rfl ?_
  refine vm_r_iaload rfl (s.1.s2) (by omega) (by omega) (s.2.1.2.1) ?_
  refine vm_r_iremN rfl (by omega) (by omega) (by omega) ?_
  refine vm_r_istore_n3 rfl rfl rfl ?_
  refine vm_r_iload_n rfl rfl rfl ?_
  refine vm_r_bipush (kI := nI 64) rfl ?_
  refine vm_r_idivN rfl (by omega) (by omega) (by omega) ?_
  refine vm_r_iconst (kI := nI 4) rfl ?_
  refine vm_r_iremN rfl (by omega) (by omega) (by omega) ?_
  unfold vlive
  generalize w % tP T = p at *
  first | refine vm_r_if_eqB rfl (fun e => ?_) (fun e => ?_) | refine vm_r_if_eqN rfl (by omega) (fun e => ?_) (fun e => ?_) | refine vm_r_if_eq rfl (fun e => ?_) (fun e => ?_)
  · rw [if_neg (by omega)]
    refine vm_r_iload_n rfl rfl rfl ?_
    refine vm_r_iload_n rfl rfl rfl ?_
    first | refine vm_r_icmp_eqN rfl (by omega) (by omega) (fun o => ?_) (fun o => ?_) | refine vm_r_icmp_eq rfl (fun o => ?_) (fun o => ?_)
    · refine vm_r_vret rfl (⟨rfl, vg.rf, s.1, s.2.1.up ⟨rfl, rfl, rfl⟩, ?_, vcon_ok s.2.2.2 hp hq⟩)
      refine s.2.2.1.con s.2.2.2 hp hq (fun k => ?_)
      rw [if_neg]
      rintro ⟨y, -⟩
      rw [o] at y
      exact (vfd_5 (s.2.2.2.B hp).1 (s.2.2.2.B hp).1).mpr rfl y
    · refine vm_r_aload_n rfl rfl rfl ?_
      refine vm_r_bipush (kI := nI 25) rfl ?_
      refine vm_r_iconst (kI := nI 5) rfl ?_
      refine vm_r_iload_n rfl rfl rfl ?_
      first | refine vm_r_imulN rfl ?_ | refine vm_r_imul rfl ?_
      first | refine vm_r_iaddN rfl ?_ | refine vm_r_iadd rfl ?_
      refine vm_r_bipush (kI := nI 25) rfl ?_
      refine vm_r_iconst (kI := nI 5) rfl ?_
      refine vm_r_iload_n rfl rfl rfl ?_
      first | refine vm_r_imulN rfl ?_ | refine vm_r_imul rfl ?_
      first | refine vm_r_iaddN rfl ?_ | refine vm_r_iadd rfl ?_
      refine vm_r_cv3X rfl (by decide) (s.1.ob) (Nat.le_of_ble_eq_true rfl) (vm_Ex_le (by first | exact Nat.le_of_ble_eq_true rfl | omega) (c_M_goNearer s.1 (f := vd (tB T p)) (g := vd (tB T ((p + 1) % tP T))) (fun k hk => ⟨vd_lt _ _, s.2.2.1.2.1 _ k hp hk⟩) (fun k hk => ⟨vd_lt _ _, s.2.2.1.2.1 _ k hq hk⟩) (by omega) (by omega))) (fun v2 μ2 q2 => ?_)
      refine vm_r_pop rfl rfl ?_
      obtain ⟨-, f2, e2⟩ := q2
      refine vm_r_vret rfl (⟨rfl, f2.g (by omega), by rw [f2.1]; exact s.1, ?_, s.2.2.1.con s.2.2.2 hp hq e2, vcon_ok s.2.2.2 hp hq⟩)
      rw [f2.2.2 _ (by omega)]
      exact s.2.1.up ⟨rfl, rfl, rfl⟩
  · rw [if_pos (by omega)]
    refine vm_r_aload_n rfl rfl rfl ?_
    refine vm_r_iload_n rfl rfl rfl ?_
    refine vm_r_iload_n rfl rfl rfl ?_
    refine vm_r_bipush (kI := nI 8) rfl ?_
    refine vm_r_idivN rfl (by omega) (by omega) (by omega) ?_
    refine vm_r_aload_n rfl rfl rfl ?_
    refine vm_r_getR rfl (s.1.r2) ?_
    refine vm_r_iconst (kI := nI 0) rfl ?_
    refine vm_r_iaload rfl (s.1.s2) (by omega) (by omega) (s.2.1.1) ?_
    refine vm_r_iremN rfl (by omega) (by omega) (by omega) ?_
    refine vm_r_cv3X rfl (by decide) (s.1.ob) (Nat.le_of_ble_eq_true rfl) (vm_Ex_le (by first | exact Nat.le_of_ble_eq_true rfl | omega) (c_M_goAsk s hp hg)) (fun v2 μ2 q2 => ?_)
    refine vm_r_pop rfl rfl ?_
    refine vm_r_goto rfl ?_
    obtain ⟨-, f2, s2⟩ := q2
    refine vm_r_vret rfl (⟨rfl, f2, s2⟩)
theorem c_M_year (h : vM μ m z) (k : vOk z) (s n w : Int32) : vm_Ex E 7 n_M_year [.ref m, .int s, .int n, .int w] 0 0 μ (vPM μ m (o_year z s n w)) := by
  have hG := k.1.1
  have hP := k.1.2.1
  have hi := k.2.2.2.2.2
  refine vm_start (D := 6) (by decide) rfl (Nat.le_of_ble_eq_true rfl) (k := k_M_year) rfl (L := [.ref m, .int s, .int n, .int w, .retAddr 0, .retAddr 0, .retAddr 0]) rfl ?_
  refine vm_r_iload_n rfl rfl rfl ?_
  refine vm_r_i2l rfl ?_
  refine vm_r_lconst (kL := lN 0) rfl ?_
  refine vm_r_ldc2_w (kL := lN 9999) rfl ?_
  refine vm_r_cs3I rfl (by decide) (Nat.le_of_ble_eq_true rfl) (vm_Ex_le (by first | exact Nat.le_of_ble_eq_true rfl | omega) (c_M_in (x := s) (lo := nI 0) (hi := nI 9999) rfl (by decide) (by decide))) ?_
  first | refine vm_r_if_eqB rfl (fun hs => ?_) (fun hs => ?_) | refine vm_r_if_eqN rfl (by omega) (fun hs => ?_) (fun hs => ?_) | refine vm_r_if_eq rfl (fun hs => ?_) (fun hs => ?_)
  · refine vm_r_iconst rfl ?_
    refine vm_r_ret rfl (fun h => by cases h) (vPM.pure h (by rw [if_neg (fun q => hs q.1)]))
  · refine vm_r_iload_n rfl rfl rfl ?_
    refine vm_r_i2l rfl ?_
    refine vm_r_lconst (kL := lN 1) rfl ?_
    refine vm_r_ldc2_w (kL := lN 60) rfl ?_
    refine vm_r_cs3I rfl (by decide) (Nat.le_of_ble_eq_true rfl) (vm_Ex_le (by first | exact Nat.le_of_ble_eq_true rfl | omega) (c_M_in (x := n) (lo := nI 1) (hi := nI 60) rfl (by decide) (by decide))) ?_
    first | refine vm_r_if_eqB rfl (fun hn => ?_) (fun hn => ?_) | refine vm_r_if_eqN rfl (by omega) (fun hn => ?_) (fun hn => ?_) | refine vm_r_if_eq rfl (fun hn => ?_) (fun hn => ?_)
    · refine vm_r_iconst rfl ?_
      refine vm_r_ret rfl (fun h => by cases h) (vPM.pure h (by rw [if_neg (fun q => hn q.2.1)]))
    · refine vm_r_iload_n rfl rfl rfl ?_
      refine vm_r_i2l rfl ?_
      refine vm_r_lconst (kL := lN 0) rfl ?_
      refine vm_r_ldc2_w (kL := lN 2) rfl ?_
      refine vm_r_cs3I rfl (by decide) (Nat.le_of_ble_eq_true rfl) (vm_Ex_le (by first | exact Nat.le_of_ble_eq_true rfl | omega) (c_M_in (x := w) (lo := nI 0) (hi := nI 2) rfl (by decide) (by decide))) ?_
      first | refine vm_r_if_neB rfl (fun hw => ?_) (fun hw => ?_) | refine vm_r_if_neN rfl (by omega) (fun hw => ?_) (fun hw => ?_) | refine vm_r_if_ne rfl (fun hw => ?_) (fun hw => ?_)
      · have hv : vrg s 9999 ∧ (1 ≤ n ∧ n ≤ 60) ∧ vrg w 2 := ⟨hs, hn, hw⟩
        obtain ⟨a, ha, rfl⟩ := vrg_n (by decide) hs
        obtain ⟨b, hb, rfl⟩ : ∃ b, b ≤ 60 ∧ n = nI b := by
          have h0 : ¬ n < 0 := Int32.not_lt.mpr (Int32.le_trans (show (0 : Int32) ≤ nI 1 by decide) hn.1)
          obtain ⟨b, h1, rfl⟩ := nI_of h0
          exact ⟨b, (nI_leI h1 (by decide)).mp hn.2, rfl⟩
        obtain ⟨c, hc, rfl⟩ := vrg_n (by decide) hw
        have eo : o_year z (nI a) (nI b) (nI c) = ((if c = 0 then tI (vyr (zT z) a b) - tI (zT z) else if c = 1 then tO (vyr (zT z) a b) - tO (zT z) else nI (vst (vyr (zT z) a b) (tP (zT z)))), z) := by
          unfold o_year
          rw [if_pos hv, nn_nI (by omega), nn_nI (by omega), nn_nI (by omega)]
        rw [eo]
        clear eo
        refine vm_r_aload_n rfl rfl rfl ?_
        refine vm_r_cv1V rfl (by decide) (h.1.ob) (Nat.le_of_ble_eq_true rfl) (vm_Ex_le (by first | exact Nat.le_of_ble_eq_true rfl | omega) (c_M_aside h.1)) (fun μ1 q1 => ?_)
        refine vm_r_iconst (kI := nI 0) rfl ?_
        refine vm_r_istore4 rfl rfl ?_
        obtain ⟨f1, e1⟩ := q1
        refine vm_up (P := fun j => ∀ (μ' : vm_M) (u v : Value), vg μ μ' m → vSd μ' m (vyr (zT z) a j) → vm_W E (vm_Ex E 6) k_M_year (vPM μ m ((if c = 0 then tI (vyr (zT z) a b) - tI (zT z) else if c = 1 then tO (vyr (zT z) a b) - tO (zT z) else nI (vst (vyr (zT z) a b) (tP (zT z)))), z)) (45, [.ref m, .int (nI a), .int (nI b), .int (nI c), .int (nI j), u, v], [], 0, 0, μ')) (N := b) ?_ ?_ 0 (by omega) μ1 (.retAddr 0) (.retAddr 0) (f1.g (by omega)) (h.sd k.1 f1 e1)
        · intro μ' u v f s'
          have h' := h.g f
          have c' := h'.2.2.2.1
          have r' := s'.2.2.1
          have eP : tP (vyr (zT z) a b) = tP (zT z) := congrArg Prod.snd (vyr_1 (zT z) a b).1
          refine vm_r_iload rfl rfl ?_
          refine vm_r_iload_n rfl rfl rfl ?_
          first | refine vm_r_icmp_geN rfl (by omega) (by omega) (fun _ => ?_) (fun hn => absurd hn (by omega)) | refine vm_r_icmp_ge rfl (fun _ => ?_) (fun hn => absurd hn (by omega))
          refine vm_r_iload_n rfl rfl rfl ?_
          first | refine vm_r_if_neB rfl (fun e => ?_) (fun e => ?_) | refine vm_r_if_neN rfl (by omega) (fun e => ?_) (fun e => ?_) | refine vm_r_if_ne rfl (fun e => ?_) (fun e => ?_)
          · refine vm_r_iload_n rfl rfl rfl ?_
            refine vm_r_iconst (kI := nI 1) rfl ?_
            first | refine vm_r_icmp_neN rfl (by omega) (by omega) (fun o => ?_) (fun o => ?_) | refine vm_r_icmp_ne rfl (fun o => ?_) (fun o => ?_)
            · rw [if_neg (by omega), if_neg (by omega)]
              refine vm_r_aload_n rfl rfl rfl ?_
              refine vm_r_iconst (kI := nI 1) rfl ?_
              refine vm_r_cv2I rfl (by decide) (h'.1.ob) (Nat.le_of_ble_eq_true rfl) (vm_Ex_le (by first | exact Nat.le_of_ble_eq_true rfl | omega) (c_M_ofGates (f := 1) h'.1 (Or.inl ⟨rfl, rfl⟩) s'.2.1.2.1 r' (by omega))) ?_
              refine vm_r_ret rfl (fun h => by cases h) (vPM.g h f (by rw [eP]))
            · rw [if_neg (by omega), if_pos (by omega)]
              refine vm_r_aload_n rfl rfl rfl ?_
              refine vm_r_getR rfl (h'.1.r6) ?_
              refine vm_r_bipush (kI := nI 62) rfl ?_
              refine vm_r_iaload rfl (h'.1.s6) (by omega) (by omega) (r'.2.2.2.2) ?_
              refine vm_r_aload_n rfl rfl rfl ?_
              refine vm_r_getR rfl (h'.1.r5) ?_
              refine vm_r_bipush (kI := nI 62) rfl ?_
              refine vm_r_iaload rfl (h'.1.s5) (by omega) (by omega) (c'.2.2.2.2) ?_
              refine vm_r_isub rfl ?_
              refine vm_r_goto rfl ?_
              refine vm_r_ret rfl (fun h => by cases h) (vPM.g h f rfl)
          · rw [if_pos (by omega)]
            refine vm_r_aload_n rfl rfl rfl ?_
            refine vm_r_getR rfl (h'.1.r6) ?_
            refine vm_r_bipush (kI := nI 61) rfl ?_
            refine vm_r_iaload rfl (h'.1.s6) (by omega) (by omega) (r'.2.2.2.1) ?_
            refine vm_r_aload_n rfl rfl rfl ?_
            refine vm_r_getR rfl (h'.1.r5) ?_
            refine vm_r_bipush (kI := nI 61) rfl ?_
            refine vm_r_iaload rfl (h'.1.s5) (by omega) (by omega) (c'.2.2.2.1) ?_
            refine vm_r_isub rfl ?_
            refine vm_r_goto rfl ?_
            refine vm_r_ret rfl (fun h => by cases h) (vPM.g h f rfl)
        · intro j hj ih μ' u v f s'
          have eG : tG (vyr (zT z) a j) = tG (zT z) := congrArg Prod.fst (vyr_1 (zT z) a j).1
          have eP : tP (vyr (zT z) a j) = tP (zT z) := congrArg Prod.snd (vyr_1 (zT z) a j).1
          have i1 := hi.1
          have h1 : (7919 * a + 6151 * j + 1) * (7919 * a + 6151 * j + 1) < 80000000 * 80000000 := Nat.mul_lt_mul'' (by omega) (by omega)
          have h2 := Nat.mod_lt ((7919 * a + 6151 * j + 1) * (7919 * a + 6151 * j + 1)) (show 0 < 65521 by decide)
          refine vm_r_iload rfl rfl ?_
          refine vm_r_iload_n rfl rfl rfl ?_
          first | refine vm_r_icmp_geN rfl (by omega) (by omega) (fun hn => absurd hn (by omega)) (fun _ => ?_) | refine vm_r_icmp_ge rfl (fun hn => absurd hn (by omega)) (fun _ => ?_)
          refine vm_r_ldc2_w (kL := lN 7919) rfl ?_
          refine vm_r_iload_n rfl rfl rfl ?_
          first | refine vm_r_i2lN rfl (by omega) ?_ | refine vm_r_i2l rfl ?_
          refine vm_r_lmul rfl ?_
          refine vm_r_topJ (l_mul _ _) ?_
          refine vm_r_ldc2_w (kL := lN 6151) rfl ?_
          refine vm_r_iload rfl rfl ?_
          first | refine vm_r_i2lN rfl (by omega) ?_ | refine vm_r_i2l rfl ?_
          refine vm_r_lmul rfl ?_
          refine vm_r_topJ (l_mul _ _) ?_
          refine vm_r_ladd rfl ?_
          refine vm_r_topJ (l_add _ _) ?_
          refine vm_r_lconst (kL := lN 1) rfl ?_
          refine vm_r_ladd rfl ?_
          refine vm_r_topJ (l_add _ _) ?_
          refine vm_r_lstore5 rfl rfl ?_
          refine vm_r_aload_n rfl rfl rfl ?_
          refine vm_r_lload rfl rfl ?_
          refine vm_r_lload rfl rfl ?_
          refine vm_r_lmul rfl ?_
          refine vm_r_topJ (l_mul _ _) ?_
          refine vm_r_ldc2_w (kL := lN 65521) rfl ?_
          refine vm_r_lrem rfl (by decide) ?_
          refine vm_r_topJ (pk_lRem (by omega) (by decide) (by decide)) ?_
          refine vm_r_l2i rfl ?_
          refine vm_r_top (l_i _) ?_
          refine vm_r_iconst (kI := nI 2) rfl ?_
          refine vm_r_idivN rfl (by omega) (by omega) (by omega) ?_
          refine vm_r_cv2V rfl (by decide) (s'.1.ob) (Nat.le_of_ble_eq_true rfl) (vm_Ex_le (by first | exact Nat.le_of_ble_eq_true rfl | omega) (c_M_goDrawn (w := vdr a j) (Nat.lt_trans (vdr_lt a j) (by decide)) s' (by omega) (by omega))) (fun μ2 q2 => ?_)
          obtain ⟨f2, s2⟩ := q2
          first | refine vm_r_iinc4N (y := 1) rfl rfl ?_ | refine vm_r_iinc4 rfl rfl ?_
          refine vm_r_goto rfl ?_
          exact ih μ2 _ _ (f.tr f2) s2
      · refine vm_r_iconst rfl ?_
        refine vm_r_ret rfl (fun h => by cases h) (vPM.pure h (by rw [if_neg (fun q => hw q.2.2)]))
theorem c_M_likely (h : vM μ m z) (k : vOk z) (p g y w : Int32) : vm_Ex E 5 n_M_likely [.ref m, .int p, .int g, .int y, .int w] 0 0 μ (vPM μ m (o_likely z p g y w)) := by
  have hG := k.1.1
  have hP := k.1.2.1
  refine vm_start (D := 4) (by decide) rfl (Nat.le_of_ble_eq_true rfl) (k := k_M_likely) rfl (L := [.ref m, .int p, .int g, .int y, .int w, .retAddr 0, .retAddr 0, .retAddr 0, .retAddr 0]) rfl ?_
  refine vm_r_aload_n rfl rfl rfl ?_
  refine vm_r_iload_n rfl rfl rfl ?_
  refine vm_r_cv2I rfl (by decide) (h.1.ob) (Nat.le_of_ble_eq_true rfl) (vm_Ex_le (by first | exact Nat.le_of_ble_eq_true rfl | omega) (c_M_isPerson h hP p)) ?_
  first | refine vm_r_if_eqB rfl (fun hp => ?_) (fun hp => ?_) | refine vm_r_if_eqN rfl (by omega) (fun hp => ?_) (fun hp => ?_) | refine vm_r_if_eq rfl (fun hp => ?_) (fun hp => ?_)
  · refine vm_r_iconst rfl ?_
    refine vm_r_ret rfl (fun h => by cases h) (vPM.pure h (by rw [if_neg (fun q => hp q.1)]))
  · refine vm_r_aload_n rfl rfl rfl ?_
    refine vm_r_iload_n rfl rfl rfl ?_
    refine vm_r_cv2I rfl (by decide) (h.1.ob) (Nat.le_of_ble_eq_true rfl) (vm_Ex_le (by first | exact Nat.le_of_ble_eq_true rfl | omega) (c_M_isGate h hG g)) ?_
    first | refine vm_r_if_eqB rfl (fun hg => ?_) (fun hg => ?_) | refine vm_r_if_eqN rfl (by omega) (fun hg => ?_) (fun hg => ?_) | refine vm_r_if_eq rfl (fun hg => ?_) (fun hg => ?_)
    · refine vm_r_iconst rfl ?_
      refine vm_r_ret rfl (fun h => by cases h) (vPM.pure h (by rw [if_neg (fun q => hg q.2.1)]))
    · refine vm_r_iload_n rfl rfl rfl ?_
      refine vm_r_i2l rfl ?_
      refine vm_r_lconst (kL := lN 0) rfl ?_
      refine vm_r_ldc2_w (kL := lN 10) rfl ?_
      refine vm_r_cs3I rfl (by decide) (Nat.le_of_ble_eq_true rfl) (vm_Ex_le (by first | exact Nat.le_of_ble_eq_true rfl | omega) (c_M_in (x := y) (lo := nI 0) (hi := nI 10) rfl (by decide) (by decide))) ?_
      first | refine vm_r_if_eqB rfl (fun hy => ?_) (fun hy => ?_) | refine vm_r_if_eqN rfl (by omega) (fun hy => ?_) (fun hy => ?_) | refine vm_r_if_eq rfl (fun hy => ?_) (fun hy => ?_)
      · refine vm_r_iconst rfl ?_
        refine vm_r_ret rfl (fun h => by cases h) (vPM.pure h (by rw [if_neg (fun q => hy q.2.2.1)]))
      · refine vm_r_iload rfl rfl ?_
        refine vm_r_i2l rfl ?_
        refine vm_r_lconst (kL := lN 0) rfl ?_
        refine vm_r_lconst (kL := lN 1) rfl ?_
        refine vm_r_cs3I rfl (by decide) (Nat.le_of_ble_eq_true rfl) (vm_Ex_le (by first | exact Nat.le_of_ble_eq_true rfl | omega) (c_M_in (x := w) (lo := nI 0) (hi := nI 1) rfl (by decide) (by decide))) ?_
        first | refine vm_r_if_neB rfl (fun hw => ?_) (fun hw => ?_) | refine vm_r_if_neN rfl (by omega) (fun hw => ?_) (fun hw => ?_) | refine vm_r_if_ne rfl (fun hw => ?_) (fun hw => ?_)
        · have hv : vix p (tP (zT z)) ∧ vix g (tG (zT z)) ∧ vrg y 10 ∧ vrg w 1 := ⟨hp, hg, hy, hw⟩
          obtain ⟨i, hi, rfl⟩ := vix_n (by omega) hp
          obtain ⟨j, hj, rfl⟩ := vix_n (by omega) hg
          obtain ⟨c, hc, rfl⟩ := vrg_n (by decide) hy
          obtain ⟨kk, hkk, rfl⟩ := vrg_n (by decide) hw
          have hB := k.1.B hi
          have hA := k.1.A hj
          have hK := k.1.K4 hj
          have hE := k.1.E40 hj
          refine vm_r_aload_n rfl rfl rfl ?_
          refine vm_r_cv1V rfl (by decide) (h.1.ob) (Nat.le_of_ble_eq_true rfl) (vm_Ex_le (by first | exact Nat.le_of_ble_eq_true rfl | omega) (c_M_aside h.1)) (fun μ1 q1 => ?_)
          refine vm_r_iconst (kI := nI 0) rfl ?_
          refine vm_r_istore5 rfl rfl ?_
          refine vm_r_iconst (kI := nI 0) rfl ?_
          refine vm_r_istore6 rfl rfl ?_
          obtain ⟨f1, e1⟩ := q1
          refine vm_up (P := fun n => ∀ (u v : Value) μ', vg μ μ' m → vSd μ' m (zT z) → vm_W E (vm_Ex E 4) k_M_likely (vPM μ m (o_likely z (nI i) (nI j) (nI c) (nI kk))) (51, [.ref m, .int (nI i), .int (nI j), .int (nI c), .int (nI kk), .int (nI (vab5 (zT z) i j c n)), .int (nI n), u, v], [], 0, 0, μ')) (N := 32) ?_ ?_ 0 (by omega) (.retAddr 0) (.retAddr 0) μ1 (f1.g (by omega)) (h.sd k.1 f1 e1)
          · intro u v μ' f s'
            have ha := vab5_le (zT z) i j c 32 hc (Nat.le_refl _)
            have hgp : 0 < Nat.gcd (vab5 (zT z) i j c 32) 100000 := Nat.gcd_pos_of_pos_right _ (by decide)
            have eo : (o_likely z (nI i) (nI j) (nI c) (nI kk)) = (nI ((if kk = 0 then vab5 (zT z) i j c 32 else 100000) / Nat.gcd (vab5 (zT z) i j c 32) 100000), z) := by
              unfold o_likely
              rw [if_pos hv, nn_nI (by omega), nn_nI (by omega), nn_nI (by omega), nn_nI (by omega)]
            rw [eo]
            clear eo
            generalize vab5 (zT z) i j c 32 = A at *
            have go : ∀ (fl a b : Nat) (v : Value), b < fl → a ≤ 100000 → b ≤ 100000 → Nat.gcd a b = Nat.gcd A 100000 → vm_W E (vm_Ex E 4) k_M_likely (vPM μ m (nI ((if kk = 0 then A else 100000) / Nat.gcd A 100000), z)) (193, [.ref m, .int (nI i), .int (nI j), .int (nI c), .int (nI kk), .int (nI A), .int (nI a), .int (nI b), v], [], 0, 0, μ') := by
              intro fl
              induction fl with
              | zero => intro a b v h1; omega
              | succ fl ih =>
                intro a b v h1 h2 h3 h4
                refine vm_r_iload rfl rfl ?_
                first | refine vm_r_if_eqB rfl (fun e => ?_) (fun e => ?_) | refine vm_r_if_eqN rfl (by omega) (fun e => ?_) (fun e => ?_) | refine vm_r_if_eq rfl (fun e => ?_) (fun e => ?_)
                · subst e
                  rw [Nat.gcd_zero_right] at h4
                  subst h4
                  refine vm_r_iload rfl rfl ?_
                  first | refine vm_r_if_neB rfl (fun o => ?_) (fun o => ?_) | refine vm_r_if_neN rfl (by omega) (fun o => ?_) (fun o => ?_) | refine vm_r_if_ne rfl (fun o => ?_) (fun o => ?_)
                  · refine vm_r_ldc (kI := nI 100000) rfl ?_
                    refine vm_r_iload rfl rfl ?_
                    refine vm_r_idivN rfl (by omega) (by omega) (by omega) ?_
                    refine vm_r_ret rfl (fun h => by cases h) (vPM.g h f (by rw [if_neg (by omega)]))
                  · refine vm_r_iload rfl rfl ?_
                    refine vm_r_iload rfl rfl ?_
                    refine vm_r_idivN rfl (by omega) (by omega) (by omega) ?_
                    refine vm_r_goto rfl ?_
                    refine vm_r_ret rfl (fun h => by cases h) (vPM.g h f (by rw [if_pos (by omega)]))
                · have hm := Nat.mod_lt a e
                  refine vm_r_iload rfl rfl ?_
                  refine vm_r_iload rfl rfl ?_
                  refine vm_r_iremN rfl (by omega) (by omega) (by omega) ?_
                  refine vm_r_istore8 rfl rfl ?_
                  refine vm_r_iload rfl rfl ?_
                  refine vm_r_istore6 rfl rfl ?_
                  refine vm_r_iload rfl rfl ?_
                  refine vm_r_istore7 rfl rfl ?_
                  refine vm_r_goto rfl ?_
                  exact ih _ _ _ (by omega) h3 (by omega) ((v_gcd a b (by omega)).trans h4)
            refine vm_r_iload rfl rfl ?_
            refine vm_r_bipush (kI := nI 32) rfl ?_
            first | refine vm_r_icmp_geN rfl (by omega) (by omega) (fun _ => ?_) (fun hn => absurd hn (by omega)) | refine vm_r_icmp_ge rfl (fun _ => ?_) (fun hn => absurd hn (by omega))
            refine vm_r_iload rfl rfl ?_
            refine vm_r_istore6 rfl rfl ?_
            refine vm_r_ldc (kI := nI 100000) rfl ?_
            refine vm_r_istore7 rfl rfl ?_
            exact go 100001 A 100000 v (by omega) ha (Nat.le_refl _) rfl
          · intro n hn ih u v μ' f s'
            have h' := h.g f
            have e1 : vab5 (zT z) i j c (n + 1) = vab5 (zT z) i j c n + if vadm (zT z) (vms (tB (zT z) i) n 5) j then vch n c 5 else 0 := rfl
            rw [e1] at ih
            have hms := vms_ok (m := n) hB 5 (Nat.le_refl 5)
            refine vm_r_iload rfl rfl ?_
            refine vm_r_bipush (kI := nI 32) rfl ?_
            first | refine vm_r_icmp_geN rfl (by omega) (by omega) (fun hn => absurd hn (by omega)) (fun _ => ?_) | refine vm_r_icmp_ge rfl (fun hn => absurd hn (by omega)) (fun _ => ?_)
            refine vm_r_iconst (kI := nI 1) rfl ?_
            refine vm_r_istore7 rfl rfl ?_
            refine vm_r_aload_n rfl rfl rfl ?_
            refine vm_r_iload_n rfl rfl rfl ?_
            refine vm_r_cv2V rfl (by decide) (h'.1.ob) (Nat.le_of_ble_eq_true rfl) (vm_Ex_le (by first | exact Nat.le_of_ble_eq_true rfl | omega) (c_M_sayingOf h'.1 (fun k hk => s'.2.2.1.2.1 i k hi hk) (by omega))) (fun μ2 q2 => ?_)
            refine vm_r_iconst (kI := nI 0) rfl ?_
            refine vm_r_istore8 rfl rfl ?_
            obtain ⟨f2, w2⟩ := q2
            refine vm_up (P := fun q => ∀ (μ3 : vm_M), vf μ' μ3 (m + 12) (m + 12) → (∀ k, k < 5 → μ3.2.1 (m + 12) k = nI (vd (vms (tB (zT z) i) n q) k)) → vm_W E (vm_Ex E 4) k_M_likely (vPM μ m (o_likely z (nI i) (nI j) (nI c) (nI kk))) (69, [.ref m, .int (nI i), .int (nI j), .int (nI c), .int (nI kk), .int (nI (vab5 (zT z) i j c n)), .int (nI n), .int (nI (vch n c q)), .int (nI q)], [], 0, 0, μ3)) (N := 5) ?_ ?_ 0 (by omega) μ2 f2 w2
            · intro μ3 f3 w3
              have h3 := h'.f12 f3
              have s3 := s'.f f3
              have hvd : vdn (tK (zT z) j) (vms (tB (zT z) i) n 5) (tA (zT z) j) 5 ≤ 50 := vdn_le _ hms hA 5 (Nat.le_refl _)
              refine vm_r_iload rfl rfl ?_
              refine vm_r_iconst (kI := nI 5) rfl ?_
              first | refine vm_r_icmp_geN rfl (by omega) (by omega) (fun _ => ?_) (fun hn => absurd hn (by omega)) | refine vm_r_icmp_ge rfl (fun _ => ?_) (fun hn => absurd hn (by omega))
              refine vm_r_iload rfl rfl ?_
              refine vm_r_aload_n rfl rfl rfl ?_
              refine vm_r_iload_n rfl rfl rfl ?_
              refine vm_r_aload_n rfl rfl rfl ?_
              refine vm_r_getR rfl (h3.1.r2) ?_
              refine vm_r_iconst (kI := nI 2) rfl ?_
              refine vm_r_iload_n rfl rfl rfl ?_
              first | refine vm_r_iaddN rfl ?_ | refine vm_r_iadd rfl ?_
              refine vm_r_iaload rfl (h3.1.s2) (by omega) (by omega) ((h3.2.2.1.2.2 j hj).1) ?_
              refine vm_r_cv3I rfl (by decide) (h3.1.ob) (Nat.le_of_ble_eq_true rfl) (vm_Ex_le (by first | exact Nat.le_of_ble_eq_true rfl | omega) (c_M_farBy h3.1 w3 (fun k hk => s3.2.2.1.1 j k hj hk) (by omega) hK)) ?_
              refine vm_r_aload_n rfl rfl rfl ?_
              refine vm_r_getR rfl (h3.1.r2) ?_
              refine vm_r_bipush (kI := nI 7) rfl ?_
              refine vm_r_iload_n rfl rfl rfl ?_
              first | refine vm_r_iaddN rfl ?_ | refine vm_r_iadd rfl ?_
              refine vm_r_iaload rfl (h3.1.s2) (by omega) (by omega) ((h3.2.2.1.2.2 j hj).2) ?_
              first | refine vm_r_icmp_gtN rfl (by omega) (by omega) (fun o => ?_) (fun o => ?_) | refine vm_r_icmp_gt rfl (fun o => ?_) (fun o => ?_)
              · have hn' : ¬ vadm (zT z) (vms (tB (zT z) i) n 5) j := by unfold vadm; omega
                rw [if_neg hn'] at ih
                refine vm_r_iconst (kI := nI 0) rfl ?_
                first | refine vm_r_iaddN rfl ?_ | refine vm_r_iadd rfl ?_
                refine vm_r_istore5 rfl rfl ?_
                first | refine vm_r_iinc6N (y := 1) rfl rfl ?_ | refine vm_r_iinc6 rfl rfl ?_
                refine vm_r_goto rfl ?_
                exact ih _ _ μ3 (f.tr (f3.g (by omega))) s3
              · have hn' : vadm (zT z) (vms (tB (zT z) i) n 5) j := o
                rw [if_pos hn'] at ih
                refine vm_r_iload rfl rfl ?_
                refine vm_r_goto rfl ?_
                first | refine vm_r_iaddN rfl ?_ | refine vm_r_iadd rfl ?_
                refine vm_r_istore5 rfl rfl ?_
                first | refine vm_r_iinc6N (y := 1) rfl rfl ?_ | refine vm_r_iinc6 rfl rfl ?_
                refine vm_r_goto rfl ?_
                exact ih _ _ μ3 (f.tr (f3.g (by omega))) s3
            · intro q hq ih2 μ3 f3 w3
              have h3 := h'.f12 f3
              have es : vch n c (q + 1) = vch n c q * (if n / 2 ^ q % 2 = 1 then c else 10 - c) := rfl
              have hmo := Nat.mod_lt (vd (tB (zT z) i) q + 1) (show 0 < 6 by decide)
              have d8 := vd_lt (tB (zT z) i) q
              have dq := vms_d (m := n) hB q (by omega) q hq
              rw [if_neg (by omega)] at dq
              have wq := w3 q hq
              rw [dq] at wq
              rw [es] at ih2
              by_cases b : n / 2 ^ q % 2 = 1
              · rw [if_pos b] at ih2
                refine vm_r_iload rfl rfl ?_
                refine vm_r_iconst (kI := nI 5) rfl ?_
                first | refine vm_r_icmp_geN rfl (by omega) (by omega) (fun hn => absurd hn (by omega)) (fun _ => ?_) | refine vm_r_icmp_ge rfl (fun hn => absurd hn (by omega)) (fun _ => ?_)
                refine vm_r_iload rfl rfl ?_
                refine vm_r_iload rfl rfl ?_
                refine vm_r_iload rfl rfl ?_
                refine vm_r_cs2I rfl (by decide) (Nat.le_of_ble_eq_true rfl) (vm_Ex_le (by first | exact Nat.le_of_ble_eq_true rfl | omega) (c_M_has (by omega) (by omega))) ?_
                first | refine vm_r_if_eqB rfl (fun hn => absurd hn (not_not_intro b)) (fun _ => ?_) | refine vm_r_if_eqN rfl (by omega) (fun hn => absurd hn (not_not_intro b)) (fun _ => ?_) | refine vm_r_if_eq rfl (fun hn => absurd hn (not_not_intro b)) (fun _ => ?_)
                refine vm_r_iload_n rfl rfl rfl ?_
                refine vm_r_goto rfl ?_
                first | refine vm_r_imulN rfl ?_ | refine vm_r_imul rfl ?_
                refine vm_r_istore7 rfl rfl ?_
                refine vm_r_aload_n rfl rfl rfl ?_
                refine vm_r_getR rfl (h3.1.r12) ?_
                refine vm_r_iload rfl rfl ?_
                refine vm_r_iload rfl rfl ?_
                refine vm_r_iload rfl rfl ?_
                refine vm_r_cs2I rfl (by decide) (Nat.le_of_ble_eq_true rfl) (vm_Ex_le (by first | exact Nat.le_of_ble_eq_true rfl | omega) (c_M_has (by omega) (by omega))) ?_
                first | refine vm_r_if_eqB rfl (fun hn => absurd hn (not_not_intro b)) (fun _ => ?_) | refine vm_r_if_eqN rfl (by omega) (fun hn => absurd hn (not_not_intro b)) (fun _ => ?_) | refine vm_r_if_eq rfl (fun hn => absurd hn (not_not_intro b)) (fun _ => ?_)
                refine vm_r_aload_n rfl rfl rfl ?_
                refine vm_r_getR rfl (h3.1.r12) ?_
                refine vm_r_iload rfl rfl ?_
                refine vm_r_iaload rfl (h3.1.s12) (by omega) (by omega) (wq) ?_
                refine vm_r_iconst (kI := nI 1) rfl ?_
                first | refine vm_r_iaddN rfl ?_ | refine vm_r_iadd rfl ?_
                refine vm_r_bipush (kI := nI 6) rfl ?_
                refine vm_r_iremN rfl (by omega) (by omega) (by omega) ?_
                refine vm_r_goto rfl ?_
                refine vm_r_iastore rfl (h3.1.s12) (by omega) (by omega) ?_
                first | refine vm_r_iinc8N (y := 1) rfl rfl ?_ | refine vm_r_iinc8 rfl rfl ?_
                refine vm_r_goto rfl ?_
                refine ih2 _ (f3.tr (vf.mI (Nat.le_refl _) (Nat.le_refl _))) (fun k5 hk5 => ?_)
                rw [vms_d hB (q + 1) (by omega) k5 hk5]
                by_cases x : k5 = q
                · subst x
                  rw [rI_eq, if_pos ⟨by omega, b⟩]
                · rw [rI_nk x, w3 k5 hk5, vms_d hB q (by omega) k5 hk5]
                  by_cases b2 : k5 < q ∧ n / 2 ^ k5 % 2 = 1
                  · rw [if_pos b2, if_pos ⟨by omega, b2.2⟩]
                  · rw [if_neg b2, if_neg (fun y => b2 ⟨by omega, y.2⟩)]
              · rw [if_neg b] at ih2
                refine vm_r_iload rfl rfl ?_
                refine vm_r_iconst (kI := nI 5) rfl ?_
                first | refine vm_r_icmp_geN rfl (by omega) (by omega) (fun hn => absurd hn (by omega)) (fun _ => ?_) | refine vm_r_icmp_ge rfl (fun hn => absurd hn (by omega)) (fun _ => ?_)
                refine vm_r_iload rfl rfl ?_
                refine vm_r_iload rfl rfl ?_
                refine vm_r_iload rfl rfl ?_
                refine vm_r_cs2I rfl (by decide) (Nat.le_of_ble_eq_true rfl) (vm_Ex_le (by first | exact Nat.le_of_ble_eq_true rfl | omega) (c_M_has (by omega) (by omega))) ?_
                first | refine vm_r_if_eqB rfl (fun _ => ?_) (fun hn => absurd hn (b)) | refine vm_r_if_eqN rfl (by omega) (fun _ => ?_) (fun hn => absurd hn (b)) | refine vm_r_if_eq rfl (fun _ => ?_) (fun hn => absurd hn (b))
                refine vm_r_bipush (kI := nI 10) rfl ?_
                refine vm_r_iload_n rfl rfl rfl ?_
                first | refine vm_r_isubN rfl (by omega) ?_ | refine vm_r_isub rfl ?_
                first | refine vm_r_imulN rfl ?_ | refine vm_r_imul rfl ?_
                refine vm_r_istore7 rfl rfl ?_
                refine vm_r_aload_n rfl rfl rfl ?_
                refine vm_r_getR rfl (h3.1.r12) ?_
                refine vm_r_iload rfl rfl ?_
                refine vm_r_iload rfl rfl ?_
                refine vm_r_iload rfl rfl ?_
                refine vm_r_cs2I rfl (by decide) (Nat.le_of_ble_eq_true rfl) (vm_Ex_le (by first | exact Nat.le_of_ble_eq_true rfl | omega) (c_M_has (by omega) (by omega))) ?_
                first | refine vm_r_if_eqB rfl (fun _ => ?_) (fun hn => absurd hn (b)) | refine vm_r_if_eqN rfl (by omega) (fun _ => ?_) (fun hn => absurd hn (b)) | refine vm_r_if_eq rfl (fun _ => ?_) (fun hn => absurd hn (b))
                refine vm_r_aload_n rfl rfl rfl ?_
                refine vm_r_getR rfl (h3.1.r12) ?_
                refine vm_r_iload rfl rfl ?_
                refine vm_r_iaload rfl (h3.1.s12) (by omega) (by omega) (wq) ?_
                refine vm_r_iastore rfl (h3.1.s12) (by omega) (by omega) ?_
                first | refine vm_r_iinc8N (y := 1) rfl rfl ?_ | refine vm_r_iinc8 rfl rfl ?_
                refine vm_r_goto rfl ?_
                refine ih2 _ (f3.tr (vf.mI (Nat.le_refl _) (Nat.le_refl _))) (fun k5 hk5 => ?_)
                rw [vms_d hB (q + 1) (by omega) k5 hk5]
                by_cases x : k5 = q
                · subst x
                  rw [rI_eq, if_neg (fun y => b y.2)]
                · rw [rI_nk x, w3 k5 hk5, vms_d hB q (by omega) k5 hk5]
                  by_cases b2 : k5 < q ∧ n / 2 ^ k5 % 2 = 1
                  · rw [if_pos b2, if_pos ⟨by omega, b2.2⟩]
                  · rw [if_neg b2, if_neg (fun y => b2 ⟨by omega, y.2⟩)]
        · refine vm_r_iconst rfl ?_
          refine vm_r_ret rfl (fun h => by cases h) (vPM.pure h (by rw [if_neg (fun q => hw q.2.2.2)]))
end MAPI6
