/-! The model's search for the fewest talks: its run. -/
section MLESS2
variable {E : vm_V} {μ μ' : vm_M} {m : Nat} {z : vZ} {T : vt_T}
set_option maxRecDepth 8000 in
theorem M_less_in {p g w n : Nat} {Q : Option Value → vm_M → Prop} (hT : vt_ok T) (hp : p < tP T) (hn : n < (vX T p n).1) (h30 : (vX T p n).2.2.2 n < 30)
    (out : ∀ (μ' : vm_M) (cc : Nat) (u v : Value), vg μ μ' m → vSd μ' m (vTp T p cc) → vQ μ' m (vX T p (n + 1)) → vm_W E (vm_Ex E 4) k_M_lessons Q (297, [.ref m, .int (nI p), .int (nI g), .int (nI w), .int (nI (vX T p (n + 1)).1), .int (nI n), .int (nI (ix6 ((vX T p n).2.1 n))), u, v], [], 0, 0, μ')) :
    ∀ j, j ≤ tP T → ∀ (μ' : vm_M) (cc : Nat) (v : Value), vg μ μ' m → vSd μ' m (vTp T p cc) → vQ μ' m (xq T p ((vX T p n).2.1 n) (fun q => if (vX T p n).2.2.2 n = 0 then q else (vX T p n).2.2.1 n) ((vX T p n).2.2.2 n + 1) (vX T p n) j) →
      vm_W E (vm_Ex E 4) k_M_lessons Q (157, [.ref m, .int (nI p), .int (nI g), .int (nI w), .int (nI (xq T p ((vX T p n).2.1 n) (fun q => if (vX T p n).2.2.2 n = 0 then q else (vX T p n).2.2.1 n) ((vX T p n).2.2.2 n + 1) (vX T p n) j).1), .int (nI n), .int (nI (ix6 ((vX T p n).2.1 n))), .int (nI j), v], [], 0, 0, μ') := by
  have hG := hT.1
  have hP := hT.2.1
  have okX := vX_ok hT hp n
  have hc := (okX.1 n hn).1
  have hpr := (okX.1 n hn).2
  have hend : vX T p (n + 1) = xq T p ((vX T p n).2.1 n) (fun q => if (vX T p n).2.2.2 n = 0 then q else (vX T p n).2.2.1 n) ((vX T p n).2.2.2 n + 1) (vX T p n) (tP T) := by rw [vX_s, if_pos ⟨hn, h30⟩]
  rw [hend] at out
  clear hend
  generalize hst : vX T p n = st at *
  generalize hcc : st.2.1 n = c at *
  generalize hpf : (fun q => if st.2.2.2 n = 0 then q else st.2.2.1 n) = pf at *
  have hpf8 : ∀ q, q < tP T → pf q < 8 := fun q hq => by
    rw [← hpf]
    show (if _ then _ else _) < 8
    split
    · omega
    · exact hpr
  intro j hj
  refine vm_up (P := fun j => ∀ (μ' : vm_M) (cc : Nat) (v : Value), vg μ μ' m → vSd μ' m (vTp T p cc) → vQ μ' m (xq T p c pf (st.2.2.2 n + 1) st j) → vm_W E (vm_Ex E 4) k_M_lessons Q (157, [.ref m, .int (nI p), .int (nI g), .int (nI w), .int (nI (xq T p c pf (st.2.2.2 n + 1) st j).1), .int (nI n), .int (nI (ix6 c)), .int (nI j), v], [], 0, 0, μ')) (N := tP T) ?_ ?_ j hj
  · intro μ' cc v f s q
    have t1 : μ'.2.1 (m + 2) 1 = nI (tP T) := s.2.1.2.1
    refine vm_r_iload rfl rfl ?_
    refine vm_r_aload_n rfl rfl rfl ?_
    refine vm_r_getR rfl (s.1.r2) ?_
    refine vm_r_iconst (kI := nI 1) rfl ?_
    refine vm_r_iaload rfl (s.1.s2) (by omega) (by omega) (t1) ?_
    first | refine vm_r_icmp_geN rfl (by omega) (by omega) (fun _ => ?_) (fun hn => absurd hn (by omega)) | refine vm_r_icmp_ge rfl (fun _ => ?_) (fun hn => absurd hn (by omega))
    exact out μ' cc _ _ f s q
  · intro j hj ih μ' cc v f s q
    have okS := xq_ok (T := T) (p := p) (c := c) (sp := st.2.2.2 n + 1) (pf := pf) (st := st) hT hc hpf8 okX j (by omega)
    have exS := xq_ext (T := T) (p := p) (c := c) (sp := st.2.2.2 n + 1) (pf := pf) (st := st) j
    rw [xq_s T p c pf (st.2.2.2 n + 1) st j] at ih
    generalize hS : xq T p c pf (st.2.2.2 n + 1) st j = S at *
    obtain ⟨x1, x2, x3⟩ := exS
    have hnS : n < S.1 := by omega
    obtain ⟨y1, y2, y3⟩ := x2 n hn
    obtain ⟨q1, q2, q3⟩ := q.1 n hnS
    rw [y1, hcc, y3] at q2
    rw [y1, hcc, y2, y3] at q3
    rw [y1, hcc] at q1
    have hix := ix6_lt hc
    have hmany := vl_many okS
    have t1 : μ'.2.1 (m + 2) 1 = nI (tP T) := s.2.1.2.1
    refine vm_r_iload rfl rfl ?_
    refine vm_r_aload_n rfl rfl rfl ?_
    refine vm_r_getR rfl (s.1.r2) ?_
    refine vm_r_iconst (kI := nI 1) rfl ?_
    refine vm_r_iaload rfl (s.1.s2) (by omega) (by omega) (t1) ?_
    first | refine vm_r_icmp_geN rfl (by omega) (by omega) (fun hn => absurd hn (by omega)) (fun _ => ?_) | refine vm_r_icmp_ge rfl (fun hn => absurd hn (by omega)) (fun _ => ?_)
    refine vm_r_aload_n rfl rfl rfl ?_
    refine vm_r_getR rfl (s.1.r13) ?_
    refine vm_r_iload rfl rfl ?_
    refine vm_r_iaload rfl (s.1.s13) (by omega) (by omega) (q2) ?_
    refine vm_r_bipush (kI := nI 30) rfl ?_
    first | refine vm_r_icmp_geN rfl (by omega) (by omega) (fun hn => absurd hn (by omega)) (fun _ => ?_) | refine vm_r_icmp_ge rfl (fun hn => absurd hn (by omega)) (fun _ => ?_)
    refine vm_r_aload_n rfl rfl rfl ?_
    refine vm_r_iload_n rfl rfl rfl ?_
    refine vm_r_iload rfl rfl ?_
    refine vm_r_cv3V rfl (by decide) (s.1.ob) (Nat.le_of_ble_eq_true rfl) (vm_Ex_le (by first | exact Nat.le_of_ble_eq_true rfl | omega) (c_M_learns s hT hp hc)) (fun μ2 q4 => ?_)
    obtain ⟨f2, ⟨k13, k14, k15⟩, s2⟩ := q4
    have qq2 := q.k k13 k14 k15
    refine vm_r_iload rfl rfl ?_
    refine vm_r_iload_n rfl rfl rfl ?_
    first | refine vm_r_icmp_eqN rfl (by omega) (by omega) (fun e => ?_) (fun e => ?_) | refine vm_r_icmp_eq rfl (fun e => ?_) (fun e => ?_)
    · subst e
      rw [if_pos rfl] at ih
      first | refine vm_r_iinc7N (y := 1) rfl rfl ?_ | refine vm_r_iinc7 rfl rfl ?_
      refine vm_r_goto rfl ?_
      exact ih μ2 _ _ (f.tr f2) s2 qq2
    · have e : ¬ j = p := e
      rw [if_neg e] at ih
      have eP : tB (vTp T p c) p = c := vu_eq
      have eJ : tB (vTp T p c) j = tB T j := vu_ne e
      refine vm_r_aload_n rfl rfl rfl ?_
      refine vm_r_bipush (kI := nI 25) rfl ?_
      refine vm_r_iconst (kI := nI 5) rfl ?_
      refine vm_r_iload_n rfl rfl rfl ?_
      first | refine vm_r_imulN rfl ?_ | refine vm_r_imul rfl ?_
      first | refine vm_r_iaddN rfl ?_ | refine vm_r_iadd rfl ?_
      refine vm_r_bipush (kI := nI 25) rfl ?_
      refine vm_r_iconst (kI := nI 5) rfl ?_
      refine vm_r_iload rfl rfl ?_
      first | refine vm_r_imulN rfl ?_ | refine vm_r_imul rfl ?_
      first | refine vm_r_iaddN rfl ?_ | refine vm_r_iadd rfl ?_
      refine vm_r_cv3X rfl (by decide) (s2.1.ob) (Nat.le_of_ble_eq_true rfl) (vm_Ex_le (by first | exact Nat.le_of_ble_eq_true rfl | omega) (c_M_goNearer s2.1 (f := vd (tB (vTp T p c) p)) (g := vd (tB (vTp T p c) j)) (fun k hk => ⟨vd_lt _ _, s2.2.2.1.2.1 p k hp hk⟩) (fun k hk => ⟨vd_lt _ _, s2.2.2.1.2.1 j k hj hk⟩) (by omega) (by omega))) (fun v3 μ3 q5 => ?_)
      obtain ⟨rfl, f3, e3⟩ := q5
      have hnx := vnx_ok hT hc hj
      have s3 : vSd μ3 m (vTp T p (vnx T c j)) := ⟨by rw [f3.1]; exact s2.1, by rw [f3.2.2 _ (by omega)]; exact s2.2.1, by rw [← vTp_con e]; exact s2.2.2.1.con s2.2.2.2 hp hj e3, vTp_ok hT hnx⟩
      have qq3 : vQ μ3 m S := qq2.k (by rw [f3.2.2 _ (by omega)]) (by rw [f3.2.2 _ (by omega)]) (by rw [f3.2.2 _ (by omega)])
      have g3 : vg μ μ3 m := (f.tr f2).tr (f3.g (by omega))
      rw [eP, eJ]
      refine vm_r_bipush rfl ?_
      refine vm_r_icmp_eq rfl (fun o => ?_) (fun o => ?_)
      · have hk := vo_none.mp o
        have ec : vnx T c j = c := if_neg hk
        have er : rch S (vnx T c j) (pf j) (st.2.2.2 n + 1) = S := if_pos (vin_iff.mpr ⟨n, hnS, by rw [y1, hcc, ec]⟩)
        rw [er] at ih
        first | refine vm_r_iinc7N (y := 1) rfl rfl ?_ | refine vm_r_iinc7 rfl rfl ?_
        refine vm_r_goto rfl ?_
        exact ih μ3 _ _ g3 s3 qq3
      · refine vm_r_aload_n rfl rfl rfl ?_
        refine vm_r_iload_n rfl rfl rfl ?_
        refine vm_r_cv2I rfl (by decide) (s3.1.ob) (Nat.le_of_ble_eq_true rfl) (vm_Ex_le (by first | exact Nat.le_of_ble_eq_true rfl | omega) (c_M_codeOf s3.1 (by omega) hnx (fun k hk => by have := s3.2.2.1.2.1 p k hp hk; rw [this]; show nI (vd (vu (tB T) p (vnx T c j) p) k) = _; rw [vu_eq]))) ?_
        refine vm_r_istore8 rfl rfl ?_
        have hix2 := ix6_lt hnx
        by_cases hin : vin S.2.1 (vnx T c j) S.1 = true
        · have er : rch S (vnx T c j) (pf j) (st.2.2.2 n + 1) = S := if_pos hin
          rw [er] at ih
          obtain ⟨i, hi, hie⟩ := vin_iff.mp hin
          obtain ⟨-, w2, -⟩ := qq3.1 i hi
          rw [hie] at w2
          have hst30 : S.2.2.2 i < 2 ^ 31 := by
            rcases Nat.lt_or_ge i st.1 with r | r
            · have := vX_30 T p n i (by rw [hst]; exact r)
              rw [hst] at this
              rw [(x2 i r).2.2]
              omega
            · rw [x3 i r hi]
              omega
          refine vm_r_aload_n rfl rfl rfl ?_
          refine vm_r_getR rfl (s3.1.r13) ?_
          refine vm_r_iload rfl rfl ?_
          refine vm_r_iaload rfl (s3.1.s13) (by omega) (by omega) (w2) ?_
          refine vm_r_bipush rfl ?_
          refine vm_r_icmp_ne rfl (fun _ => ?_) (fun hn => absurd hn ((not_not_intro (v_nI4 hst30))))
          first | refine vm_r_iinc7N (y := 1) rfl rfl ?_ | refine vm_r_iinc7 rfl rfl ?_
          refine vm_r_goto rfl ?_
          exact ih μ3 _ _ g3 s3 qq3
        · have hinf : vin S.2.1 (vnx T c j) S.1 = false := by
            cases hv : vin S.2.1 (vnx T c j) S.1 with
            | true => exact absurd hv hin
            | false => rfl
          have w2 := qq3.2 _ hnx hinf
          have hmany2 := vl_many (rch_ok (sp := st.2.2.2 n + 1) okS hnx (hpf8 j hj))
          have er : (rch S (vnx T c j) (pf j) (st.2.2.2 n + 1)).1 = S.1 + 1 := by
            unfold rch
            rw [if_neg hin]
          rw [er] at hmany2 ih
          have hcne : ix6 c ≠ ix6 (vnx T c j) := fun y => hin (vin_iff.mpr ⟨n, hnS, by rw [y1, hcc]; exact ix6_inj hc hnx y⟩)
          have q2' : μ3.2.1 (m + 13) (ix6 c) = nI (st.2.2.2 n) := by rw [f3.2.2 _ (by omega), k13]; exact q2
          have q3' : μ3.2.1 (m + 14) (ix6 c) = if st.2.2.2 n = 0 then -4 else nI (st.2.2.1 n) := by rw [f3.2.2 _ (by omega), k14]; exact q3
          have q2'' : (vm_mI μ3 (m + 13) (ix6 (vnx T c j)) (nI (st.2.2.2 n + 1))).2.1 (m + 13) (ix6 c) = nI (st.2.2.2 n) := by rw [rI_nk hcne]; exact q2'
          have q3'' : (vm_mI μ3 (m + 13) (ix6 (vnx T c j)) (nI (st.2.2.2 n + 1))).2.1 (m + 14) (ix6 c) = if st.2.2.2 n = 0 then -4 else nI (st.2.2.1 n) := by rw [rI_no (by omega)]; exact q3'
          have h4 : vMh (vm_mI μ3 (m + 13) (ix6 (vnx T c j)) (nI (st.2.2.2 n + 1))).1 m := s3.1
          have fin : ∀ pr, pr = pf j → vm_W E (vm_Ex E 4) k_M_lessons Q (278, [.ref m, .int (nI p), .int (nI g), .int (nI w), .int (nI S.1), .int (nI n), .int (nI (ix6 c)), .int (nI j), .int (nI (ix6 (vnx T c j)))], [.int (nI pr), .int (nI (ix6 (vnx T c j))), .ref (m + 14)], 0, 0, vm_mI μ3 (m + 13) (ix6 (vnx T c j)) (nI (st.2.2.2 n + 1))) := by
            rintro pr rfl
            refine vm_r_iastore rfl (h4.s14) (by omega) (by omega) ?_
            refine vm_r_aload_n rfl rfl rfl ?_
            refine vm_r_getR rfl (h4.r15) ?_
            refine vm_r_iload rfl rfl ?_
            refine vm_r_iload rfl rfl ?_
            refine vm_r_iastore rfl (h4.s15) (by omega) (by omega) ?_
            first | refine vm_r_iinc4N (y := 1) rfl rfl ?_ | refine vm_r_iinc4 rfl rfl ?_
            first | refine vm_r_iinc7N (y := 1) rfl rfl ?_ | refine vm_r_iinc7 rfl rfl ?_
            refine vm_r_goto rfl ?_
            refine ih _ (vnx T c j) _ (g3.tr ((((vf.mI (by omega) (by omega) : vf _ _ (m + 13) (m + 15)).tr (vf.mI (by omega) (by omega))).tr (vf.mI (by omega) (by omega))).g (by omega))) ⟨s3.1, ?_, ?_, s3.2.2.2⟩ (qq3.add okS hnx hinf (by omega))
            · rw [rI_no2 (by omega), rI_no2 (by omega), rI_no2 (by omega)]
              exact s3.2.1
            · rw [rI_no2 (by omega), rI_no2 (by omega), rI_no2 (by omega)]
              exact s3.2.2.1
          refine vm_r_aload_n rfl rfl rfl ?_
          refine vm_r_getR rfl (s3.1.r13) ?_
          refine vm_r_iload rfl rfl ?_
          refine vm_r_iaload rfl (s3.1.s13) (by omega) (by omega) (w2) ?_
          refine vm_r_bipush rfl ?_
          refine vm_r_icmp_ne rfl (fun hn => absurd hn ((fun y => y rfl))) (fun _ => ?_)
          refine vm_r_aload_n rfl rfl rfl ?_
          refine vm_r_getR rfl (s3.1.r13) ?_
          refine vm_r_iload rfl rfl ?_
          refine vm_r_aload_n rfl rfl rfl ?_
          refine vm_r_getR rfl (s3.1.r13) ?_
          refine vm_r_iload rfl rfl ?_
          refine vm_r_iaload rfl (s3.1.s13) (by omega) (by omega) (q2') ?_
          refine vm_r_iconst (kI := nI 1) rfl ?_
          first | refine vm_r_iaddN rfl ?_ | refine vm_r_iadd rfl ?_
          refine vm_r_iastore rfl (s3.1.s13) (by omega) (by omega) ?_
          refine vm_r_aload_n rfl rfl rfl ?_
          refine vm_r_getR rfl (h4.r14) ?_
          refine vm_r_iload rfl rfl ?_
          refine vm_r_aload_n rfl rfl rfl ?_
          refine vm_r_getR rfl (h4.r13) ?_
          refine vm_r_iload rfl rfl ?_
          refine vm_r_iaload rfl (h4.s13) (by omega) (by omega) (q2'') ?_
          by_cases e0 : st.2.2.2 n = 0
          · first | refine vm_r_if_neB rfl (fun hn => absurd hn (by omega)) (fun _ => ?_) | refine vm_r_if_neN rfl (by omega) (fun hn => absurd hn (by omega)) (fun _ => ?_) | refine vm_r_if_ne rfl (fun hn => absurd hn (by omega)) (fun _ => ?_)
            refine vm_r_iload rfl rfl ?_
            refine vm_r_goto rfl ?_
            exact fin j (by rw [← hpf]; exact (if_pos e0).symm)
          · rw [if_neg e0] at q3''
            first | refine vm_r_if_neB rfl (fun _ => ?_) (fun hn => absurd hn (by omega)) | refine vm_r_if_neN rfl (by omega) (fun _ => ?_) (fun hn => absurd hn (by omega)) | refine vm_r_if_ne rfl (fun _ => ?_) (fun hn => absurd hn (by omega))
            refine vm_r_aload_n rfl rfl rfl ?_
            refine vm_r_getR rfl (h4.r14) ?_
            refine vm_r_iload rfl rfl ?_
            refine vm_r_iaload rfl (h4.s14) (by omega) (by omega) (q3'') ?_
            exact fin (st.2.2.1 n) (by rw [← hpf]; exact (if_neg e0).symm)
set_option maxRecDepth 8000 in
theorem c_M_lessons (h : vM μ m z) (k : vOk z) (p g w : Int32) : vm_Ex E 5 n_M_lessons [.ref m, .int p, .int g, .int w] 0 0 μ (vPM μ m (o_lessons z p g w)) := by
  have hG := k.1.1
  have hP := k.1.2.1
  refine vm_start (D := 4) (by decide) rfl (Nat.le_of_ble_eq_true rfl) (k := k_M_lessons) rfl (L := [.ref m, .int p, .int g, .int w, .retAddr 0, .retAddr 0, .retAddr 0, .retAddr 0, .retAddr 0]) rfl ?_
  refine vm_r_aload_n rfl rfl rfl ?_
  refine vm_r_iload_n rfl rfl rfl ?_
  refine vm_r_cv2I rfl (by decide) (h.1.ob) (Nat.le_of_ble_eq_true rfl) (vm_Ex_le (by first | exact Nat.le_of_ble_eq_true rfl | omega) (c_M_isPerson h hP p)) ?_
  first | refine vm_r_if_eqB rfl (fun hp => ?_) (fun hp => ?_) | refine vm_r_if_eqN rfl (by omega) (fun hp => ?_) (fun hp => ?_) | refine vm_r_if_eq rfl (fun hp => ?_) (fun hp => ?_)
  · refine vm_r_iconst rfl ?_
    refine vm_r_ret rfl (fun h => by cases h) (vPM.pure h (by rw [if_neg (fun q => hp q.1)]))
  · refine vm_r_aload_n rfl rfl rfl ?_
    refine vm_r_iload_n rfl rfl rfl ?_
    refine vm_r_cv2I rfl (by decide) (h.1.ob) (Nat.le_of_ble_eq_true rfl) (vm_Ex_le (by first | exact Nat.le_of_ble_eq_true rfl | omega) (c_M_isGate h hG g)) ?_
    first | refine vm_r_if_eqB rfl (fun hg => ?_) (fun hg => ?_) | refine vm_r_if_eqN rfl (by omega) (fun hg => ?_) (fun hg => ?_) | refine vm_r_if_eq rfl (fun hg => ?_) (fun hg => ?_)
    · refine vm_r_iconst rfl ?_
      refine vm_r_ret rfl (fun h => by cases h) (vPM.pure h (by rw [if_neg (fun q => hg q.2.1)]))
    · refine vm_r_iload_n rfl rfl rfl ?_
      refine vm_r_i2l rfl ?_
      refine vm_r_lconst (kL := lN 0) rfl ?_
      refine vm_r_lconst (kL := lN 1) rfl ?_
      refine vm_r_cs3I rfl (by decide) (Nat.le_of_ble_eq_true rfl) (vm_Ex_le (by first | exact Nat.le_of_ble_eq_true rfl | omega) (c_M_in (x := w) (lo := nI 0) (hi := nI 1) rfl (by decide) (by decide))) ?_
      first | refine vm_r_if_neB rfl (fun hw => ?_) (fun hw => ?_) | refine vm_r_if_neN rfl (by omega) (fun hw => ?_) (fun hw => ?_) | refine vm_r_if_ne rfl (fun hw => ?_) (fun hw => ?_)
      · have hv : vix p (tP (zT z)) ∧ vix g (tG (zT z)) ∧ vrg w 1 := ⟨hp, hg, hw⟩
        obtain ⟨i, hi, rfl⟩ := vix_n (by omega) hp
        obtain ⟨j, hj, rfl⟩ := vix_n (by omega) hg
        obtain ⟨c, hc, rfl⟩ := vrg_n (by decide) hw
        have eo : o_lessons z (nI i) (nI j) (nI c) = ((if c = 0 then vl0 (zT z) i j else vl1 (zT z) i j), z) := by
          unfold o_lessons
          rw [if_pos hv, nn_nI (by omega), nn_nI (by omega), nn_nI (by omega)]
        rw [eo]
        clear eo
        have hB := k.1.B hi
        refine vm_r_aload_n rfl rfl rfl ?_
        refine vm_r_cv1V rfl (by decide) (h.1.ob) (Nat.le_of_ble_eq_true rfl) (vm_Ex_le (by first | exact Nat.le_of_ble_eq_true rfl | omega) (c_M_aside h.1)) (fun μ1 q1 => ?_)
        refine vm_r_iconst (kI := nI 0) rfl ?_
        refine vm_r_istore4 rfl rfl ?_
        obtain ⟨f1, e1⟩ := q1
        have s1 := h.sd k.1 f1 e1
        refine vm_up (P := fun a => ∀ (μ2 : vm_M) (v : Value), vf μ1 μ2 (m + 13) (m + 13) → (∀ k, k < a → μ2.2.1 (m + 13) k = -4) → vm_W E (vm_Ex E 4) k_M_lessons _ (35, [.ref m, .int (nI i), .int (nI j), .int (nI c), .int (nI a), v, .retAddr 0, .retAddr 0, .retAddr 0], [], 0, 0, μ2)) (N := 7776) ?_ ?_ 0 (by omega) μ1 (.retAddr 0) vf.rf (fun k hk => by omega)
        · intro μ2 v f2 e2
          have s2 : vSd μ2 m (zT z) := ⟨by rw [f2.1]; exact s1.1, by rw [f2.2.2 _ (by omega)]; exact s1.2.1, by rw [f2.2.2 _ (by omega)]; exact s1.2.2.1, s1.2.2.2⟩
          have hix := ix6_lt hB
          have h3 : vMh (vm_mI μ2 (m + 15) 0 (nI (ix6 (tB (zT z) i)))).1 m := s2.1
          have w3 : (vm_mI μ2 (m + 15) 0 (nI (ix6 (tB (zT z) i)))).2.1 (m + 15) 0 = nI (ix6 (tB (zT z) i)) := rI_eq
          have h4 : vMh (vm_mI (vm_mI μ2 (m + 15) 0 (nI (ix6 (tB (zT z) i)))) (m + 13) (ix6 (tB (zT z) i)) (nI 0)).1 m := s2.1
          have w4 : (vm_mI (vm_mI μ2 (m + 15) 0 (nI (ix6 (tB (zT z) i)))) (m + 13) (ix6 (tB (zT z) i)) (nI 0)).2.1 (m + 15) 0 = nI (ix6 (tB (zT z) i)) := by rw [rI_no (by omega)]; exact w3
          refine vm_r_iload rfl rfl ?_
          refine vm_r_sipush (kI := nI 7776) rfl ?_
          first | refine vm_r_icmp_geN rfl (by omega) (by omega) (fun _ => ?_) (fun hn => absurd hn (by omega)) | refine vm_r_icmp_ge rfl (fun _ => ?_) (fun hn => absurd hn (by omega))
          refine vm_r_aload_n rfl rfl rfl ?_
          refine vm_r_getR rfl (s2.1.r15) ?_
          refine vm_r_iconst (kI := nI 0) rfl ?_
          refine vm_r_aload_n rfl rfl rfl ?_
          refine vm_r_iload_n rfl rfl rfl ?_
          refine vm_r_cv2I rfl (by decide) (s2.1.ob) (Nat.le_of_ble_eq_true rfl) (vm_Ex_le (by first | exact Nat.le_of_ble_eq_true rfl | omega) (c_M_codeOf s2.1 (by omega) hB (fun k hk => s2.2.2.1.2.1 i k hi hk))) ?_
          refine vm_r_iastore rfl (s2.1.s15) (by omega) (by omega) ?_
          refine vm_r_aload_n rfl rfl rfl ?_
          refine vm_r_getR rfl (h3.r13) ?_
          refine vm_r_aload_n rfl rfl rfl ?_
          refine vm_r_getR rfl (h3.r15) ?_
          refine vm_r_iconst (kI := nI 0) rfl ?_
          refine vm_r_iaload rfl (h3.s15) (by omega) (by omega) (w3) ?_
          refine vm_r_iconst (kI := nI 0) rfl ?_
          refine vm_r_iastore rfl (h3.s13) (by omega) (by omega) ?_
          refine vm_r_aload_n rfl rfl rfl ?_
          refine vm_r_getR rfl (h4.r14) ?_
          refine vm_r_aload_n rfl rfl rfl ?_
          refine vm_r_getR rfl (h4.r15) ?_
          refine vm_r_iconst (kI := nI 0) rfl ?_
          refine vm_r_iaload rfl (h4.s15) (by omega) (by omega) (w4) ?_
          refine vm_r_bipush rfl ?_
          refine vm_r_iastore rfl (h4.s14) (by omega) (by omega) ?_
          refine vm_r_iconst (kI := nI 1) rfl ?_
          refine vm_r_istore4 rfl rfl ?_
          refine vm_r_iconst (kI := nI 0) rfl ?_
          refine vm_r_istore5 rfl rfl ?_
          have g5 : vg μ (vm_mI (vm_mI (vm_mI μ2 (m + 15) 0 (nI (ix6 (tB (zT z) i)))) (m + 13) (ix6 (tB (zT z) i)) (nI 0)) (m + 14) (ix6 (tB (zT z) i)) (-4)) m := ((f1.g (by omega)).tr (f2.g (by omega))).tr ((((vf.mI (by omega) (by omega) : vf _ _ (m + 13) (m + 15)).tr (vf.mI (by omega) (by omega))).tr (vf.mI (by omega) (by omega))).g (by omega))
          have s5 : vSd (vm_mI (vm_mI (vm_mI μ2 (m + 15) 0 (nI (ix6 (tB (zT z) i)))) (m + 13) (ix6 (tB (zT z) i)) (nI 0)) (m + 14) (ix6 (tB (zT z) i)) (-4)) m (vTp (zT z) i (tB (zT z) i)) := by
            rw [vTp_self]
            refine ⟨s2.1, ?_, ?_, s2.2.2.2⟩
            · rw [rI_no2 (by omega), rI_no2 (by omega), rI_no2 (by omega)]
              exact s2.2.1
            · rw [rI_no2 (by omega), rI_no2 (by omega), rI_no2 (by omega)]
              exact s2.2.2.1
          have q5 : vQ (vm_mI (vm_mI (vm_mI μ2 (m + 15) 0 (nI (ix6 (tB (zT z) i)))) (m + 13) (ix6 (tB (zT z) i)) (nI 0)) (m + 14) (ix6 (tB (zT z) i)) (-4)) m (vX (zT z) i 0) := by
            refine ⟨fun a ha => ?_, fun d hd hdn => ?_⟩
            · have ha : a < 1 := ha
              obtain rfl : a = 0 := by omega
              refine ⟨?_, ?_, ?_⟩
              · rw [rI_no (by omega), rI_no (by omega)]
                exact rI_eq
              · rw [rI_no (by omega)]
                exact rI_eq
              · rw [if_pos (show (vX (zT z) i 0).2.2.2 0 = 0 from rfl)]
                exact rI_eq
            · have hdn : vin (fun _ => tB (zT z) i) d 1 = false := hdn
              have hne : ix6 d ≠ ix6 (tB (zT z) i) := fun y => by
                have e : d = tB (zT z) i := ix6_inj hd hB y
                have : vin (fun _ => tB (zT z) i) d 1 = true := vin_iff.mpr ⟨0, by omega, e.symm⟩
                rw [hdn] at this
                cases this
              rw [rI_no (by omega), rI_nk hne, rI_no (by omega)]
              exact e2 _ (ix6_lt hd)
          refine vm_up (P := fun n => ∀ (μ3 : vm_M) (cc : Nat) (u v w : Value), vg μ μ3 m → vSd μ3 m (vTp (zT z) i cc) → vQ μ3 m (vX (zT z) i n) → (∀ a, a < n → ¬ vadm (zT z) ((vX (zT z) i a).2.1 a) j) → vm_W E (vm_Ex E 4) k_M_lessons _ (100, [.ref m, .int (nI i), .int (nI j), .int (nI c), .int (nI (vX (zT z) i n).1), .int (nI n), u, v, w], [], 0, 0, μ3)) (N := 7777) ?_ ?_ 0 (by omega) _ _ _ _ _ g5 s5 q5 (fun a ha => by omega)
          · intro μ3 cc u v w g3 s3 q3 hno
            have hm := vl_many (vX_ok k.1 hi 7777)
            have hK := vlK_no (T := zT z) (p := i) (g := j) (k := 7777) (by omega) hno
            refine vm_r_iload rfl rfl ?_
            refine vm_r_iload rfl rfl ?_
            first | refine vm_r_icmp_geN rfl (by omega) (by omega) (fun _ => ?_) (fun hn => absurd hn (by omega)) | refine vm_r_icmp_ge rfl (fun _ => ?_) (fun hn => absurd hn (by omega))
            refine vm_r_bipush rfl ?_
            refine vm_r_ret rfl (fun h => by cases h) (vPM.g h g3 ?_)
            unfold vl0 vl1
            rw [hK]
            split <;> rfl
          · intro n hn ih μ3 cc u v w g3 s3 q3 hno
            have okX := vX_ok k.1 hi n
            have hm := vl_many okX
            by_cases hlt : n < (vX (zT z) i n).1
            · obtain ⟨r1, r2, r3⟩ := q3.1 n hlt
              have hcn := (okX.1 n hlt).1
              have hixn := ix6_lt hcn
              refine vm_r_iload rfl rfl ?_
              refine vm_r_iload rfl rfl ?_
              first | refine vm_r_icmp_geN rfl (by omega) (by omega) (fun hn => absurd hn (by omega)) (fun _ => ?_) | refine vm_r_icmp_ge rfl (fun hn => absurd hn (by omega)) (fun _ => ?_)
              refine vm_r_aload_n rfl rfl rfl ?_
              refine vm_r_getR rfl (s3.1.r15) ?_
              refine vm_r_iload rfl rfl ?_
              refine vm_r_iaload rfl (s3.1.s15) (by omega) (by omega) (r1) ?_
              refine vm_r_istore6 rfl rfl ?_
              refine vm_r_aload_n rfl rfl rfl ?_
              refine vm_r_iload_n rfl rfl rfl ?_
              refine vm_r_iload rfl rfl ?_
              refine vm_r_cv3V rfl (by decide) (s3.1.ob) (Nat.le_of_ble_eq_true rfl) (vm_Ex_le (by first | exact Nat.le_of_ble_eq_true rfl | omega) (c_M_learns s3 k.1 hi hcn)) (fun μ4 q4 => ?_)
              obtain ⟨f4, ⟨k13, k14, k15⟩, s4⟩ := q4
              have qq4 := q3.k k13 k14 k15
              refine vm_r_aload_n rfl rfl rfl ?_
              refine vm_r_iload_n rfl rfl rfl ?_
              refine vm_r_iload_n rfl rfl rfl ?_
              refine vm_r_cv3X rfl (by decide) (s4.1.ob) (Nat.le_of_ble_eq_true rfl) (vm_Ex_le (by first | exact Nat.le_of_ble_eq_true rfl | omega) (c_M_letsIn s4 hi hj)) (fun v5 μ5 q6 => ?_)
              obtain ⟨rfl, f5⟩ := q6
              have s5' := s4.f f5
              have qq5 : vQ μ5 m (vX (zT z) i n) := qq4.k (by rw [f5.2.2 _ (by omega)]) (by rw [f5.2.2 _ (by omega)]) (by rw [f5.2.2 _ (by omega)])
              have g5' := (g3.tr f4).tr (f5.g (by omega))
              have eadm : vadm (vTp (zT z) i ((vX (zT z) i n).2.1 n)) (tB (vTp (zT z) i ((vX (zT z) i n).2.1 n)) i) j ↔ vadm (zT z) ((vX (zT z) i n).2.1 n) j := by
                have eP : tB (vTp (zT z) i ((vX (zT z) i n).2.1 n)) i = (vX (zT z) i n).2.1 n := vu_eq
                rw [eP]
                exact Iff.rfl
              obtain ⟨r1', r2', r3'⟩ := qq5.1 n hlt
              have h30 := vX_30 (zT z) i n n hlt
              first | refine vm_r_if_eqB rfl (fun ad => ?_) (fun ad => ?_) | refine vm_r_if_eqN rfl (by omega) (fun ad => ?_) (fun ad => ?_) | refine vm_r_if_eq rfl (fun ad => ?_) (fun ad => ?_)
              · have had : ¬ vadm (zT z) ((vX (zT z) i n).2.1 n) j := fun y => ad (eadm.mpr y)
                have hno2 : ∀ a, a < n + 1 → ¬ vadm (zT z) ((vX (zT z) i a).2.1 a) j := fun a ha => by
                  rcases Nat.lt_or_ge a n with y | y
                  · exact hno a y
                  · obtain rfl : a = n := by omega
                    exact had
                refine vm_r_iconst (kI := nI 0) rfl ?_
                refine vm_r_istore7 rfl rfl ?_
                by_cases h3 : (vX (zT z) i n).2.2.2 n < 30
                · refine M_less_in k.1 hi hlt h3 (fun μ6 c6 u6 v6 g6 s6 q6 => ?_) 0 (by omega) μ5 _ _ g5' s5' qq5
                  first | refine vm_r_iinc5N (y := 1) rfl rfl ?_ | refine vm_r_iinc5 rfl rfl ?_
                  refine vm_r_goto rfl ?_
                  exact ih μ6 c6 _ _ _ g6 s6 q6 hno2
                · have eX : vX (zT z) i (n + 1) = vX (zT z) i n := by rw [vX_s, if_neg (fun y => h3 y.2)]
                  rw [eX] at ih
                  have t1 : μ5.2.1 (m + 2) 1 = nI (tP (zT z)) := s5'.2.1.2.1
                  refine vm_r_iload rfl rfl ?_
                  refine vm_r_aload_n rfl rfl rfl ?_
                  refine vm_r_getR rfl (s5'.1.r2) ?_
                  refine vm_r_iconst (kI := nI 1) rfl ?_
                  refine vm_r_iaload rfl (s5'.1.s2) (by omega) (by omega) (t1) ?_
                  first | refine vm_r_icmp_geN rfl (by omega) (by omega) (fun hn => absurd hn (by omega)) (fun _ => ?_) | refine vm_r_icmp_ge rfl (fun hn => absurd hn (by omega)) (fun _ => ?_)
                  refine vm_r_aload_n rfl rfl rfl ?_
                  refine vm_r_getR rfl (s5'.1.r13) ?_
                  refine vm_r_iload rfl rfl ?_
                  refine vm_r_iaload rfl (s5'.1.s13) (by omega) (by omega) (r2') ?_
                  refine vm_r_bipush (kI := nI 30) rfl ?_
                  first | refine vm_r_icmp_geN rfl (by omega) (by omega) (fun _ => ?_) (fun hn => absurd hn (by omega)) | refine vm_r_icmp_ge rfl (fun _ => ?_) (fun hn => absurd hn (by omega))
                  first | refine vm_r_iinc5N (y := 1) rfl rfl ?_ | refine vm_r_iinc5 rfl rfl ?_
                  refine vm_r_goto rfl ?_
                  exact ih μ5 _ _ _ _ g5' s5' qq5 hno2
              · have had := eadm.mp ad
                have hK := vlK_yes k.1 hi hlt had hno
                refine vm_r_iload_n rfl rfl rfl ?_
                first | refine vm_r_if_neB rfl (fun e => ?_) (fun e => ?_) | refine vm_r_if_neN rfl (by omega) (fun e => ?_) (fun e => ?_) | refine vm_r_if_ne rfl (fun e => ?_) (fun e => ?_)
                · refine vm_r_aload_n rfl rfl rfl ?_
                  refine vm_r_getR rfl (s5'.1.r14) ?_
                  refine vm_r_iload rfl rfl ?_
                  refine vm_r_iaload rfl (s5'.1.s14) (by omega) (by omega) (r3') ?_
                  refine vm_r_ret rfl (fun h => by cases h) (vPM.g h g5' ?_)
                  rw [if_neg (show ¬ c = 0 by omega)]
                  unfold vl1
                  rw [hK, if_pos (show n < 7777 by omega)]
                · refine vm_r_aload_n rfl rfl rfl ?_
                  refine vm_r_getR rfl (s5'.1.r13) ?_
                  refine vm_r_iload rfl rfl ?_
                  refine vm_r_iaload rfl (s5'.1.s13) (by omega) (by omega) (r2') ?_
                  refine vm_r_goto rfl ?_
                  refine vm_r_ret rfl (fun h => by cases h) (vPM.g h g5' ?_)
                  rw [if_pos (show c = 0 by omega)]
                  unfold vl0
                  rw [hK, if_pos (show n < 7777 by omega)]
            · have hK := vlK_no (T := zT z) (p := i) (g := j) (k := n) (by omega) hno
              refine vm_r_iload rfl rfl ?_
              refine vm_r_iload rfl rfl ?_
              first | refine vm_r_icmp_geN rfl (by omega) (by omega) (fun _ => ?_) (fun hn => absurd hn (by omega)) | refine vm_r_icmp_ge rfl (fun _ => ?_) (fun hn => absurd hn (by omega))
              refine vm_r_bipush rfl ?_
              refine vm_r_ret rfl (fun h => by cases h) (vPM.g h g3 ?_)
              unfold vl0 vl1
              rw [hK]
              split <;> rfl
        · intro a ha ih μ2 v f2 e2
          have h2 : vMh μ2.1 m := by rw [f2.1]; exact s1.1
          refine vm_r_iload rfl rfl ?_
          refine vm_r_sipush (kI := nI 7776) rfl ?_
          first | refine vm_r_icmp_geN rfl (by omega) (by omega) (fun hn => absurd hn (by omega)) (fun _ => ?_) | refine vm_r_icmp_ge rfl (fun hn => absurd hn (by omega)) (fun _ => ?_)
          refine vm_r_aload_n rfl rfl rfl ?_
          refine vm_r_getR rfl (h2.r13) ?_
          refine vm_r_iload rfl rfl ?_
          refine vm_r_bipush rfl ?_
          refine vm_r_iastore rfl (h2.s13) (by omega) (by omega) ?_
          first | refine vm_r_iinc4N (y := 1) rfl rfl ?_ | refine vm_r_iinc4 rfl rfl ?_
          refine vm_r_goto rfl ?_
          refine ih _ _ (f2.tr (vf.mI (Nat.le_refl _) (Nat.le_refl _))) (fun k hk => ?_)
          by_cases y : k = a
          · subst y
            rw [rI_eq]
          · rw [rI_nk y]
            exact e2 k (by omega)
      · refine vm_r_iconst rfl ?_
        refine vm_r_ret rfl (fun h => by cases h) (vPM.pure h (by rw [if_neg (fun q => hw q.2.2)]))
end MLESS2
