/-! The model: what fits, who would be let in, to and fro, sounds that tell apart. -/
theorem v_andM : ∀ m, m < 32 → ∀ k, k < 5 → vbm m 5 / 8 ^ k % 8 = if m / 2 ^ k % 2 = 1 then 7 else 0 := by decide +kernel
theorem v_dand (a b k : Nat) : (a &&& b) / 8 ^ k % 8 = (a / 8 ^ k % 8) &&& (b / 8 ^ k % 8) := by
  rw [← v_pow k, show (8 : Nat) = 2 ^ 3 from rfl]
  rw [Nat.and_div_two_pow, Nat.and_mod_two_pow]
theorem vpt_iff {T : vt_T} {n g h : Nat} (hT : vt_ok T) (hn : n < 32) (hg : g < tG T) (hh : h < tG T) : vpt T n g h ↔ ∃ k, k < 5 ∧ n / 2 ^ k % 2 = 1 ∧ ¬ vd (tA T g) k = vd (tA T h) k := by
  have e : ∀ c k, k < 5 → vd (c &&& vbm n 5) k = if n / 2 ^ k % 2 = 1 then vd c k else 0 := fun c k hk => by
    unfold vd
    rw [v_dand, v_andM n hn k hk]
    split
    · rw [v_and7]
      exact Nat.mod_mod _ _
    · exact Nat.and_zero _
  have l1 : tA T g &&& vbm n 5 < 32768 := Nat.lt_of_le_of_lt Nat.and_le_left (hT.A hg).1
  have l2 : tA T h &&& vbm n 5 < 32768 := Nat.lt_of_le_of_lt Nat.and_le_left (hT.A hh).1
  unfold vpt
  constructor
  · intro q
    apply Classical.byContradiction
    intro y
    refine q (v_ext l1 l2 fun k hk => ?_)
    rw [e _ k hk, e _ k hk]
    split
    · rename_i b
      exact Classical.byContradiction fun w => y ⟨k, hk, b, w⟩
    · rfl
  · rintro ⟨k, hk, b, w⟩ q
    have := congrArg (fun c => vd c k) q
    simp only [e _ k hk, if_pos b] at this
    exact w this
section MAPI4
variable {E : vm_V} {μ μ' : vm_M} {m : Nat} {z : vZ} {T : vt_T}
theorem vM.f12 {μ1 : vm_M} (h : vM μ m z) (f : vf μ μ1 (m + 12) (m + 12)) : vM μ1 m z := h.g (f.g (by omega))
theorem c_M_isSeen {g kd er : Nat} (h : vM μ m z) (s : vSd μ m (zT z)) (k : vOk z) (hg : g < tG (zT z)) (hd : kd < 4) (he : er ≤ 40) : vm_Ex E 3 n_M_isSeen [.ref m, .int (nI g), .int (nI kd), .int (nI er)] 0 0 μ (vm_PX (fun v μ' => v = vm_bi (vfit (zW z) (zT z) g kd er (wN (zW z)) = true) ∧ vf μ μ' (m + 12) (m + 12))) := by
  have hG := k.1.1
  have hP := k.1.2.1
  have hN := k.2.1.1
  refine vm_start (D := 2) (by decide) rfl (Nat.le_of_ble_eq_true rfl) (k := k_M_isSeen) rfl (L := [.ref m, .int (nI g), .int (nI kd), .int (nI er), .retAddr 0, .retAddr 0]) rfl ?_
  refine vm_r_iconst (kI := nI 1) rfl ?_
  refine vm_r_istore4 rfl rfl ?_
  refine vm_r_iconst (kI := nI 0) rfl ?_
  refine vm_r_istore5 rfl rfl ?_
  refine vm_up (P := fun i => ∀ μ1, vf μ μ1 (m + 12) (m + 12) → vm_W E (vm_Ex E 2) k_M_isSeen _ (6, [.ref m, .int (nI g), .int (nI kd), .int (nI er), .int (vm_bi (vfit (zW z) (zT z) g kd er i = true)), .int (nI i)], [], 0, 0, μ1)) (N := wN (zW z)) ?_ ?_ 0 (by omega) μ vf.rf
  · intro μ1 f
    have h1 := h.f12 f
    refine vm_r_iload rfl rfl ?_
    refine vm_r_aload_n rfl rfl rfl ?_
    refine vm_r_getI rfl (h1.1.g12 h1.2.2.2.2.2.2.1.1) ?_
    first | refine vm_r_icmp_geN rfl (by omega) (by omega) (fun _ => ?_) (fun hn => absurd hn (by omega)) | refine vm_r_icmp_ge rfl (fun _ => ?_) (fun hn => absurd hn (by omega))
    refine vm_r_iload rfl rfl ?_
    refine vm_r_ret rfl (fun _ => by first | exact vm_bi_01 _ | decide) (⟨_, rfl, rfl, f⟩)
  · intro i hi ih μ1 f
    have h1 := h.f12 f
    have s1 := s.f f
    obtain ⟨y1, y2, y3⟩ := h1.2.2.2.2.2.2.1.2 i hi
    obtain ⟨b1, b2, b3⟩ := k.2.1.2.2.1 i hi
    have hp := k.2.2.2.2.2.2.2.2 i hi
    refine vm_r_iload rfl rfl ?_
    refine vm_r_aload_n rfl rfl rfl ?_
    refine vm_r_getI rfl (h1.1.g12 h1.2.2.2.2.2.2.1.1) ?_
    first | refine vm_r_icmp_geN rfl (by omega) (by omega) (fun hn => absurd hn (by omega)) (fun _ => ?_) | refine vm_r_icmp_ge rfl (fun hn => absurd hn (by omega)) (fun _ => ?_)
    refine vm_r_aload_n rfl rfl rfl ?_
    refine vm_r_aload_n rfl rfl rfl ?_
    refine vm_r_getR rfl (h1.1.r9) ?_
    refine vm_r_iconst (kI := nI 3) rfl ?_
    refine vm_r_iload rfl rfl ?_
    first | refine vm_r_imulN rfl ?_ | refine vm_r_imul rfl ?_
    refine vm_r_iaload rfl (h1.1.s9) (by omega) (by omega) (y1) ?_
    refine vm_r_cv2V rfl (by decide) (s1.1.ob) (Nat.le_of_ble_eq_true rfl) (vm_Ex_le (by first | exact Nat.le_of_ble_eq_true rfl | omega) (c_M_sayingOf s1.1 (fun k hk => s1.2.2.1.2.1 (wP (zW z) i) k hp hk) (by omega))) (fun μ2 q2 => ?_)
    obtain ⟨f2, w2⟩ := q2
    have h2 := h1.f12 f2
    have s2 := s1.f f2
    obtain ⟨y1', y2', y3'⟩ := h2.2.2.2.2.2.2.1.2 i hi
    have hf := k.1.A hg
    have hv : vdn kd (tB (zT z) (wP (zW z) i)) (tA (zT z) g) 5 ≤ 50 := vdn_le kd (k.1.B hp) hf 5 (Nat.le_refl _)
    have hs : vfit (zW z) (zT z) g kd er (i + 1) = (vfit (zW z) (zT z) g kd er i && (decide (wG (zW z) i ≠ g) || (decide (vdn kd (tB (zT z) (wP (zW z) i)) (tA (zT z) g) 5 ≤ er) == decide (wI (zW z) i = 1)))) := rfl
    have fin : ∀ (P : Prop) [Decidable P], (P ↔ (vfit (zW z) (zT z) g kd er i = true ∧ (wG (zW z) i ≠ g ∨ (vdn kd (tB (zT z) (wP (zW z) i)) (tA (zT z) g) 5 ≤ er ↔ wI (zW z) i = 1)))) → vm_W E (vm_Ex E 2) k_M_isSeen (vm_PX (fun v μ' => v = vm_bi (vfit (zW z) (zT z) g kd er (wN (zW z)) = true) ∧ vf μ μ' (m + 12) (m + 12))) (91, [.ref m, .int (nI g), .int (nI kd), .int (nI er), .int (vm_bi (vfit (zW z) (zT z) g kd er i = true)), .int (nI i)], [.int (vm_bi P)], 0, 0, μ2) := by
      intro P _ hPi
      have e1 : vm_bi P = vm_bi (vfit (zW z) (zT z) g kd er (i + 1) = true) := vm_bi_c (hPi.trans (by rw [hs]; simp))
      rw [e1]
      refine vm_r_istore4 rfl rfl ?_
      first | refine vm_r_iinc5N (y := 1) rfl rfl ?_ | refine vm_r_iinc5 rfl rfl ?_
      refine vm_r_goto rfl ?_
      exact ih μ2 (f.tr f2)
    refine vm_r_iload rfl rfl ?_
    first | refine vm_r_if_eqB rfl (fun a => ?_) (fun a => ?_) | refine vm_r_if_eqN rfl (by omega) (fun a => ?_) (fun a => ?_) | refine vm_r_if_eq rfl (fun a => ?_) (fun a => ?_)
    · refine vm_r_iconst (kI := nI 0) rfl ?_
      exact fin False ⟨False.elim, fun q => absurd q.1 a⟩
    · refine vm_r_aload_n rfl rfl rfl ?_
      refine vm_r_getR rfl (h2.1.r9) ?_
      refine vm_r_iconst (kI := nI 3) rfl ?_
      refine vm_r_iload rfl rfl ?_
      first | refine vm_r_imulN rfl ?_ | refine vm_r_imul rfl ?_
      refine vm_r_iconst (kI := nI 1) rfl ?_
      first | refine vm_r_iaddN rfl ?_ | refine vm_r_iadd rfl ?_
      refine vm_r_iaload rfl (h2.1.s9) (by omega) (by omega) (y2') ?_
      refine vm_r_iload_n rfl rfl rfl ?_
      first | refine vm_r_icmp_neN rfl (by omega) (by omega) (fun b => ?_) (fun b => ?_) | refine vm_r_icmp_ne rfl (fun b => ?_) (fun b => ?_)
      · refine vm_r_iconst (kI := nI 1) rfl ?_
        refine vm_r_goto rfl ?_
        exact fin True ⟨fun _ => ⟨a, Or.inl (by omega)⟩, fun _ => trivial⟩
      · refine vm_r_aload_n rfl rfl rfl ?_
        refine vm_r_iload_n rfl rfl rfl ?_
        refine vm_r_iload_n rfl rfl rfl ?_
        refine vm_r_cv3I rfl (by decide) (h2.1.ob) (Nat.le_of_ble_eq_true rfl) (vm_Ex_le (by first | exact Nat.le_of_ble_eq_true rfl | omega) (c_M_farBy h2.1 w2 (fun k hk => s2.2.2.1.1 g k hg hk) (by omega) hd)) ?_
        refine vm_r_iload_n rfl rfl rfl ?_
        first | refine vm_r_icmp_gtN rfl (by omega) (by omega) (fun c => ?_) (fun c => ?_) | refine vm_r_icmp_gt rfl (fun c => ?_) (fun c => ?_)
        · refine vm_r_iconst (kI := nI 0) rfl ?_
          refine vm_r_aload_n rfl rfl rfl ?_
          refine vm_r_getR rfl (h2.1.r9) ?_
          refine vm_r_iconst (kI := nI 3) rfl ?_
          refine vm_r_iload rfl rfl ?_
          first | refine vm_r_imulN rfl ?_ | refine vm_r_imul rfl ?_
          refine vm_r_iconst (kI := nI 2) rfl ?_
          first | refine vm_r_iaddN rfl ?_ | refine vm_r_iadd rfl ?_
          refine vm_r_iaload rfl (h2.1.s9) (by omega) (by omega) (y3') ?_
          refine vm_r_iconst (kI := nI 1) rfl ?_
          first | refine vm_r_icmp_neN rfl (by omega) (by omega) (fun d => ?_) (fun d => ?_) | refine vm_r_icmp_ne rfl (fun d => ?_) (fun d => ?_)
          · refine vm_r_iconst (kI := nI 0) rfl ?_
            first | refine vm_r_icmp_neN rfl (by omega) (by omega) (fun hn => absurd hn (by omega)) (fun _ => ?_) | refine vm_r_icmp_ne rfl (fun hn => absurd hn (by omega)) (fun _ => ?_)
            refine vm_r_iconst (kI := nI 1) rfl ?_
            refine vm_r_goto rfl ?_
            exact fin True ⟨fun _ => ⟨a, Or.inr ⟨fun q => by omega, fun q => by omega⟩⟩, fun _ => trivial⟩
          · refine vm_r_iconst (kI := nI 1) rfl ?_
            refine vm_r_goto rfl ?_
            first | refine vm_r_icmp_neN rfl (by omega) (by omega) (fun _ => ?_) (fun hn => absurd hn (by omega)) | refine vm_r_icmp_ne rfl (fun _ => ?_) (fun hn => absurd hn (by omega))
            refine vm_r_iconst (kI := nI 0) rfl ?_
            exact fin False ⟨False.elim, fun q => by rcases q.2 with q | q; exact absurd b q; have := q.mpr (by omega); omega⟩
        · refine vm_r_iconst (kI := nI 1) rfl ?_
          refine vm_r_goto rfl ?_
          refine vm_r_aload_n rfl rfl rfl ?_
          refine vm_r_getR rfl (h2.1.r9) ?_
          refine vm_r_iconst (kI := nI 3) rfl ?_
          refine vm_r_iload rfl rfl ?_
          first | refine vm_r_imulN rfl ?_ | refine vm_r_imul rfl ?_
          refine vm_r_iconst (kI := nI 2) rfl ?_
          first | refine vm_r_iaddN rfl ?_ | refine vm_r_iadd rfl ?_
          refine vm_r_iaload rfl (h2.1.s9) (by omega) (by omega) (y3') ?_
          refine vm_r_iconst (kI := nI 1) rfl ?_
          first | refine vm_r_icmp_neN rfl (by omega) (by omega) (fun d => ?_) (fun d => ?_) | refine vm_r_icmp_ne rfl (fun d => ?_) (fun d => ?_)
          · refine vm_r_iconst (kI := nI 0) rfl ?_
            first | refine vm_r_icmp_neN rfl (by omega) (by omega) (fun _ => ?_) (fun hn => absurd hn (by omega)) | refine vm_r_icmp_ne rfl (fun _ => ?_) (fun hn => absurd hn (by omega))
            refine vm_r_iconst (kI := nI 0) rfl ?_
            exact fin False ⟨False.elim, fun q => by rcases q.2 with q | q; exact absurd b q; have := q.mp (by omega); omega⟩
          · refine vm_r_iconst (kI := nI 1) rfl ?_
            refine vm_r_goto rfl ?_
            first | refine vm_r_icmp_neN rfl (by omega) (by omega) (fun hn => absurd hn (by omega)) (fun _ => ?_) | refine vm_r_icmp_ne rfl (fun hn => absurd hn (by omega)) (fun _ => ?_)
            refine vm_r_iconst (kI := nI 1) rfl ?_
            refine vm_r_goto rfl ?_
            exact fin True ⟨fun _ => ⟨a, Or.inr ⟨fun _ => by omega, fun _ => by omega⟩⟩, fun _ => trivial⟩
theorem c_M_kinds (h : vM μ m z) (k : vOk z) (g : Int32) : vm_Ex E 4 n_M_kinds [.ref m, .int g] 0 0 μ (vPM μ m (o_kinds z g)) := by
  have hG := k.1.1
  refine vm_start (D := 3) (by decide) rfl (Nat.le_of_ble_eq_true rfl) (k := k_M_kinds) rfl (L := [.ref m, .int g, .retAddr 0, .retAddr 0]) rfl ?_
  refine vm_r_aload_n rfl rfl rfl ?_
  refine vm_r_iload_n rfl rfl rfl ?_
  refine vm_r_cv2I rfl (by decide) (h.1.ob) (Nat.le_of_ble_eq_true rfl) (vm_Ex_le (by first | exact Nat.le_of_ble_eq_true rfl | omega) (c_M_isGate h hG g)) ?_
  first | refine vm_r_if_neB rfl (fun hg => ?_) (fun hg => ?_) | refine vm_r_if_neN rfl (by omega) (fun hg => ?_) (fun hg => ?_) | refine vm_r_if_ne rfl (fun hg => ?_) (fun hg => ?_)
  · obtain ⟨i, hi, rfl⟩ := vix_n (by omega) hg
    refine vm_r_aload_n rfl rfl rfl ?_
    refine vm_r_cv1V rfl (by decide) (h.1.ob) (Nat.le_of_ble_eq_true rfl) (vm_Ex_le (by first | exact Nat.le_of_ble_eq_true rfl | omega) (c_M_aside h.1)) (fun μ1 q1 => ?_)
    refine vm_r_iconst (kI := nI 0) rfl ?_
    refine vm_r_istore_n2 rfl rfl rfl ?_
    refine vm_r_iconst (kI := nI 0) rfl ?_
    refine vm_r_istore_n3 rfl rfl rfl ?_
    obtain ⟨f1, e1⟩ := q1
    refine vm_up (P := fun j => ∀ μ2, vg μ μ2 m → vSd μ2 m (zT z) → vm_W E (vm_Ex E 3) k_M_kinds (vPM μ m (o_kinds z (nI i))) (18, [.ref m, .int (nI i), .int (nI (vmask (fun kd => vfit (zW z) (zT z) i kd (tE (zT z) i) (wN (zW z))) j)), .int (nI j)], [], 0, 0, μ2)) (N := 4) ?_ ?_ 0 (by omega) μ1 (f1.g (by omega)) (h.sd k.1 f1 e1)
    · intro μ2 f s
      refine vm_r_iload_n rfl rfl rfl ?_
      refine vm_r_iconst (kI := nI 4) rfl ?_
      first | refine vm_r_icmp_geN rfl (by omega) (by omega) (fun _ => ?_) (fun hn => absurd hn (by omega)) | refine vm_r_icmp_ge rfl (fun _ => ?_) (fun hn => absurd hn (by omega))
      refine vm_r_iload_n rfl rfl rfl ?_
      refine vm_r_ret rfl (fun h => by cases h) (vPM.g h f (by rw [if_pos (show vix _ _ from hg), nn_nI (by omega)]))
    · intro j hj ih μ2 f s
      have h2 := h.g f
      rw [vmask_s, ← Nat.one_mul (2 ^ j)] at ih
      refine vm_r_iload_n rfl rfl rfl ?_
      refine vm_r_iconst (kI := nI 4) rfl ?_
      first | refine vm_r_icmp_geN rfl (by omega) (by omega) (fun hn => absurd hn (by omega)) (fun _ => ?_) | refine vm_r_icmp_ge rfl (fun hn => absurd hn (by omega)) (fun _ => ?_)
      refine vm_r_iload_n rfl rfl rfl ?_
      refine vm_r_aload_n rfl rfl rfl ?_
      refine vm_r_iload_n rfl rfl rfl ?_
      refine vm_r_iload_n rfl rfl rfl ?_
      refine vm_r_aload_n rfl rfl rfl ?_
      refine vm_r_getR rfl (h2.1.r2) ?_
      refine vm_r_bipush (kI := nI 7) rfl ?_
      refine vm_r_iload_n rfl rfl rfl ?_
      first | refine vm_r_iaddN rfl ?_ | refine vm_r_iadd rfl ?_
      refine vm_r_iaload rfl (h2.1.s2) (by omega) (by omega) ((h2.2.2.1.2.2 i hi).2) ?_
      refine vm_r_cv4X rfl (by decide) (h2.1.ob) (Nat.le_of_ble_eq_true rfl) (vm_Ex_le (by first | exact Nat.le_of_ble_eq_true rfl | omega) (c_M_isSeen h2 s k hi hj (k.1.E40 hi))) (fun v3 μ3 q3 => ?_)
      obtain ⟨rfl, f3⟩ := q3
      first | refine vm_r_if_eqB rfl (fun e => ?_) (fun e => ?_) | refine vm_r_if_eqN rfl (by omega) (fun e => ?_) (fun e => ?_) | refine vm_r_if_eq rfl (fun e => ?_) (fun e => ?_)
      · rw [if_neg e, ← Nat.or_zero (vmask _ j)] at ih
        refine vm_r_iconst (kI := nI 0) rfl ?_
        first | refine vm_r_iorN rfl ?_ | refine vm_r_ior rfl ?_
        refine vm_r_istore_n2 rfl rfl rfl ?_
        first | refine vm_r_iinc3N (y := 1) rfl rfl ?_ | refine vm_r_iinc3 rfl rfl ?_
        refine vm_r_goto rfl ?_
        exact ih μ3 (f.tr (f3.g (by omega))) (s.f f3)
      · rw [if_pos e] at ih
        refine vm_r_iconst (kI := nI 1) rfl ?_
        refine vm_r_iload_n rfl rfl rfl ?_
        refine vm_r_ishlN rfl (by omega) (v_p32 j (by omega)) ?_
        refine vm_r_goto rfl ?_
        first | refine vm_r_iorN rfl ?_ | refine vm_r_ior rfl ?_
        refine vm_r_istore_n2 rfl rfl rfl ?_
        first | refine vm_r_iinc3N (y := 1) rfl rfl ?_ | refine vm_r_iinc3 rfl rfl ?_
        refine vm_r_goto rfl ?_
        exact ih μ3 (f.tr (f3.g (by omega))) (s.f f3)
  · refine vm_r_iconst rfl ?_
    refine vm_r_ret rfl (fun h => by cases h) (vPM.pure h (by rw [if_neg hg]))
theorem c_M_ears (h : vM μ m z) (k : vOk z) (g w : Int32) : vm_Ex E 4 n_M_ears [.ref m, .int g, .int w] 0 0 μ (vPM μ m (o_ears z g w)) := by
  have hG := k.1.1
  refine vm_start (D := 3) (by decide) rfl (Nat.le_of_ble_eq_true rfl) (k := k_M_ears) rfl (L := [.ref m, .int g, .int w, .retAddr 0, .retAddr 0, .retAddr 0, .retAddr 0]) rfl ?_
  refine vm_r_aload_n rfl rfl rfl ?_
  refine vm_r_iload_n rfl rfl rfl ?_
  refine vm_r_cv2I rfl (by decide) (h.1.ob) (Nat.le_of_ble_eq_true rfl) (vm_Ex_le (by first | exact Nat.le_of_ble_eq_true rfl | omega) (c_M_isGate h hG g)) ?_
  first | refine vm_r_if_eqB rfl (fun hg => ?_) (fun hg => ?_) | refine vm_r_if_eqN rfl (by omega) (fun hg => ?_) (fun hg => ?_) | refine vm_r_if_eq rfl (fun hg => ?_) (fun hg => ?_)
  · refine vm_r_iconst rfl ?_
    refine vm_r_ret rfl (fun h => by cases h) (vPM.pure h (by rw [if_neg (fun y => hg y.1)]))
  · refine vm_r_iload_n rfl rfl rfl ?_
    refine vm_r_i2l rfl ?_
    refine vm_r_lconst (kL := lN 0) rfl ?_
    refine vm_r_lconst (kL := lN 1) rfl ?_
    refine vm_r_cs3I rfl (by decide) (Nat.le_of_ble_eq_true rfl) (vm_Ex_le (by first | exact Nat.le_of_ble_eq_true rfl | omega) (c_M_in (x := w) (lo := nI 0) (hi := nI 1) rfl (by decide) (by decide))) ?_
    first | refine vm_r_if_neB rfl (fun hw => ?_) (fun hw => ?_) | refine vm_r_if_neN rfl (by omega) (fun hw => ?_) (fun hw => ?_) | refine vm_r_if_ne rfl (fun hw => ?_) (fun hw => ?_)
    · have hv : vix g (tG (zT z)) ∧ vrg w 1 := ⟨hg, hw⟩
      obtain ⟨i, hi, rfl⟩ := vix_n (by omega) hg
      obtain ⟨c, hc, rfl⟩ := vrg_n (by decide) hw
      have hK := k.1.K4 hi
      refine vm_r_aload_n rfl rfl rfl ?_
      refine vm_r_cv1V rfl (by decide) (h.1.ob) (Nat.le_of_ble_eq_true rfl) (vm_Ex_le (by first | exact Nat.le_of_ble_eq_true rfl | omega) (c_M_aside h.1)) (fun μ1 q1 => ?_)
      refine vm_r_iconst (kI := nI 0) rfl ?_
      refine vm_r_istore_n3 rfl rfl rfl ?_
      refine vm_r_bipush rfl ?_
      refine vm_r_istore4 rfl rfl ?_
      refine vm_r_bipush (kI := nI 40) rfl ?_
      refine vm_r_istore5 rfl rfl ?_
      obtain ⟨f1, e1⟩ := q1
      refine vm_up (P := fun j => ∀ μ2 (v : Value), vg μ μ2 m → vSd μ2 m (zT z) → vm_W E (vm_Ex E 3) k_M_ears (vPM μ m (o_ears z (nI i) (nI c))) (34, [.ref m, .int (nI i), .int (nI c), .int (nI (vec z i j).1), .int (vec z i j).2, .int (v_dn j), v], [], 0, 0, μ2)) (N := 41) ?_ ?_ 0 (by omega) μ1 (.retAddr 0) (f1.g (by omega)) (h.sd k.1 f1 e1)
      · intro μ2 v f s
        refine vm_r_iload rfl rfl ?_
        refine vm_r_if_lt rfl (fun _ => ?_) (fun hn => absurd hn ((by decide)))
        refine vm_r_iload_n rfl rfl rfl ?_
        first | refine vm_r_if_neB rfl (fun e => ?_) (fun e => ?_) | refine vm_r_if_neN rfl (by omega) (fun e => ?_) (fun e => ?_) | refine vm_r_if_ne rfl (fun e => ?_) (fun e => ?_)
        · refine vm_r_iload rfl rfl ?_
          refine vm_r_ret rfl (fun h => by cases h) (vPM.g h f (by rw [if_pos hv, nn_nI (by omega), nn_nI (by omega), if_neg (by omega)]))
        · refine vm_r_iload_n rfl rfl rfl ?_
          refine vm_r_goto rfl ?_
          refine vm_r_ret rfl (fun h => by cases h) (vPM.g h f (by rw [if_pos hv, nn_nI (by omega), nn_nI (by omega), if_pos (by omega)]))
      · intro j hj ih μ2 v f s
        have h2 := h.g f
        have e1 : v_dn j = nI (40 - j) := if_neg (by omega)
        rw [vec_s, ← v_dn_s j hj] at ih
        rw [e1]
        refine vm_r_iload rfl rfl ?_
        refine vm_r_if_ltN rfl (by omega) ?_
        refine vm_r_aload_n rfl rfl rfl ?_
        refine vm_r_iload_n rfl rfl rfl ?_
        refine vm_r_aload_n rfl rfl rfl ?_
        refine vm_r_getR rfl (h2.1.r2) ?_
        refine vm_r_iconst (kI := nI 2) rfl ?_
        refine vm_r_iload_n rfl rfl rfl ?_
        first | refine vm_r_iaddN rfl ?_ | refine vm_r_iadd rfl ?_
        refine vm_r_iaload rfl (h2.1.s2) (by omega) (by omega) ((h2.2.2.1.2.2 i hi).1) ?_
        refine vm_r_iload rfl rfl ?_
        refine vm_r_cv4X rfl (by decide) (h2.1.ob) (Nat.le_of_ble_eq_true rfl) (vm_Ex_le (by first | exact Nat.le_of_ble_eq_true rfl | omega) (c_M_isSeen h2 s k hi hK (by omega))) (fun v3 μ3 q3 => ?_)
        obtain ⟨rfl, f3⟩ := q3
        by_cases e : vear z i (40 - j) = true
        · rw [if_pos e] at ih
          refine vm_r_istore6 rfl rfl ?_
          refine vm_r_iload_n rfl rfl rfl ?_
          refine vm_r_iload rfl rfl ?_
          first | refine vm_r_if_eqB rfl (fun hn => absurd hn ((not_not_intro e))) (fun _ => ?_) | refine vm_r_if_eqN rfl (by omega) (fun hn => absurd hn ((not_not_intro e))) (fun _ => ?_) | refine vm_r_if_eq rfl (fun hn => absurd hn ((not_not_intro e))) (fun _ => ?_)
          refine vm_r_iconst (kI := nI 1) rfl ?_
          refine vm_r_goto rfl ?_
          first | refine vm_r_iaddN rfl ?_ | refine vm_r_iadd rfl ?_
          refine vm_r_istore_n3 rfl rfl rfl ?_
          refine vm_r_iload rfl rfl ?_
          first | refine vm_r_if_eqB rfl (fun hn => absurd hn ((not_not_intro e))) (fun _ => ?_) | refine vm_r_if_eqN rfl (by omega) (fun hn => absurd hn ((not_not_intro e))) (fun _ => ?_) | refine vm_r_if_eq rfl (fun hn => absurd hn ((not_not_intro e))) (fun _ => ?_)
          refine vm_r_iload rfl rfl ?_
          refine vm_r_goto rfl ?_
          refine vm_r_istore4 rfl rfl ?_
          refine vm_r_iinc5 rfl rfl ?_
          refine vm_r_goto rfl ?_
          exact ih μ3 _ (f.tr (f3.g (by omega))) (s.f f3)
        · rw [if_neg e] at ih
          refine vm_r_istore6 rfl rfl ?_
          refine vm_r_iload_n rfl rfl rfl ?_
          refine vm_r_iload rfl rfl ?_
          first | refine vm_r_if_eqB rfl (fun _ => ?_) (fun hn => absurd hn (e)) | refine vm_r_if_eqN rfl (by omega) (fun _ => ?_) (fun hn => absurd hn (e)) | refine vm_r_if_eq rfl (fun _ => ?_) (fun hn => absurd hn (e))
          refine vm_r_iconst (kI := nI 0) rfl ?_
          first | refine vm_r_iaddN rfl ?_ | refine vm_r_iadd rfl ?_
          refine vm_r_istore_n3 rfl rfl rfl ?_
          refine vm_r_iload rfl rfl ?_
          first | refine vm_r_if_eqB rfl (fun _ => ?_) (fun hn => absurd hn (e)) | refine vm_r_if_eqN rfl (by omega) (fun _ => ?_) (fun hn => absurd hn (e)) | refine vm_r_if_eq rfl (fun _ => ?_) (fun hn => absurd hn (e))
          refine vm_r_iload rfl rfl ?_
          refine vm_r_istore4 rfl rfl ?_
          refine vm_r_iinc5 rfl rfl ?_
          refine vm_r_goto rfl ?_
          exact ih μ3 _ (f.tr (f3.g (by omega))) (s.f f3)
    · refine vm_r_iconst rfl ?_
      refine vm_r_ret rfl (fun h => by cases h) (vPM.pure h (by rw [if_neg (fun y => hw y.2)]))
theorem c_M_opens (h : vM μ m z) (k : vOk z) (p : Int32) : vm_Ex E 5 n_M_opens [.ref m, .int p] 0 0 μ (vPM μ m (o_opens z p)) := by
  have hG := k.1.1
  have hP := k.1.2.1
  refine vm_start (D := 4) (by decide) rfl (Nat.le_of_ble_eq_true rfl) (k := k_M_opens) rfl (L := [.ref m, .int p, .retAddr 0, .retAddr 0]) rfl ?_
  refine vm_r_aload_n rfl rfl rfl ?_
  refine vm_r_iload_n rfl rfl rfl ?_
  refine vm_r_cv2I rfl (by decide) (h.1.ob) (Nat.le_of_ble_eq_true rfl) (vm_Ex_le (by first | exact Nat.le_of_ble_eq_true rfl | omega) (c_M_isPerson h hP p)) ?_
  first | refine vm_r_if_neB rfl (fun hp => ?_) (fun hp => ?_) | refine vm_r_if_neN rfl (by omega) (fun hp => ?_) (fun hp => ?_) | refine vm_r_if_ne rfl (fun hp => ?_) (fun hp => ?_)
  · obtain ⟨i, hi, rfl⟩ := vix_n (by omega) hp
    refine vm_r_aload_n rfl rfl rfl ?_
    refine vm_r_cv1V rfl (by decide) (h.1.ob) (Nat.le_of_ble_eq_true rfl) (vm_Ex_le (by first | exact Nat.le_of_ble_eq_true rfl | omega) (c_M_aside h.1)) (fun μ1 q1 => ?_)
    refine vm_r_iconst (kI := nI 0) rfl ?_
    refine vm_r_istore_n2 rfl rfl rfl ?_
    refine vm_r_iconst (kI := nI 0) rfl ?_
    refine vm_r_istore_n3 rfl rfl rfl ?_
    obtain ⟨f1, e1⟩ := q1
    refine vm_up (P := fun j => ∀ μ2, vg μ μ2 m → vSd μ2 m (zT z) → vm_W E (vm_Ex E 4) k_M_opens (vPM μ m (o_opens z (nI i))) (18, [.ref m, .int (nI i), .int (nI (vmask (fun g => decide (vadm (zT z) (tB (zT z) i) g)) j)), .int (nI j)], [], 0, 0, μ2)) (N := tG (zT z)) ?_ ?_ 0 (by omega) μ1 (f1.g (by omega)) (h.sd k.1 f1 e1)
    · intro μ2 f s
      have h2 := h.g f
      refine vm_r_iload_n rfl rfl rfl ?_
      refine vm_r_aload_n rfl rfl rfl ?_
      refine vm_r_getR rfl (h2.1.r2) ?_
      refine vm_r_iconst (kI := nI 0) rfl ?_
      refine vm_r_iaload rfl (h2.1.s2) (by omega) (by omega) (h2.2.2.1.1) ?_
      first | refine vm_r_icmp_geN rfl (by omega) (by omega) (fun _ => ?_) (fun hn => absurd hn (by omega)) | refine vm_r_icmp_ge rfl (fun _ => ?_) (fun hn => absurd hn (by omega))
      refine vm_r_iload_n rfl rfl rfl ?_
      refine vm_r_ret rfl (fun h => by cases h) (vPM.g h f (by rw [if_pos (show vix _ _ from hp), nn_nI (by omega)]))
    · intro j hj ih μ2 f s
      have h2 := h.g f
      rw [vmask_s, ← Nat.one_mul (2 ^ j)] at ih
      refine vm_r_iload_n rfl rfl rfl ?_
      refine vm_r_aload_n rfl rfl rfl ?_
      refine vm_r_getR rfl (h2.1.r2) ?_
      refine vm_r_iconst (kI := nI 0) rfl ?_
      refine vm_r_iaload rfl (h2.1.s2) (by omega) (by omega) (h2.2.2.1.1) ?_
      first | refine vm_r_icmp_geN rfl (by omega) (by omega) (fun hn => absurd hn (by omega)) (fun _ => ?_) | refine vm_r_icmp_ge rfl (fun hn => absurd hn (by omega)) (fun _ => ?_)
      refine vm_r_iload_n rfl rfl rfl ?_
      refine vm_r_aload_n rfl rfl rfl ?_
      refine vm_r_iload_n rfl rfl rfl ?_
      refine vm_r_iload_n rfl rfl rfl ?_
      refine vm_r_cv3X rfl (by decide) (h2.1.ob) (Nat.le_of_ble_eq_true rfl) (vm_Ex_le (by first | exact Nat.le_of_ble_eq_true rfl | omega) (c_M_letsIn s hi hj)) (fun v3 μ3 q3 => ?_)
      obtain ⟨rfl, f3⟩ := q3
      first | refine vm_r_if_eqB rfl (fun e => ?_) (fun e => ?_) | refine vm_r_if_eqN rfl (by omega) (fun e => ?_) (fun e => ?_) | refine vm_r_if_eq rfl (fun e => ?_) (fun e => ?_)
      · rw [if_neg (by simp [e]), ← Nat.or_zero (vmask _ j)] at ih
        refine vm_r_iconst (kI := nI 0) rfl ?_
        first | refine vm_r_iorN rfl ?_ | refine vm_r_ior rfl ?_
        refine vm_r_istore_n2 rfl rfl rfl ?_
        first | refine vm_r_iinc3N (y := 1) rfl rfl ?_ | refine vm_r_iinc3 rfl rfl ?_
        refine vm_r_goto rfl ?_
        exact ih μ3 (f.tr (f3.g (by omega))) (s.f f3)
      · rw [if_pos (by simp [e])] at ih
        refine vm_r_iconst (kI := nI 1) rfl ?_
        refine vm_r_iload_n rfl rfl rfl ?_
        refine vm_r_ishlN rfl (by omega) (v_p32 j (by omega)) ?_
        refine vm_r_goto rfl ?_
        first | refine vm_r_iorN rfl ?_ | refine vm_r_ior rfl ?_
        refine vm_r_istore_n2 rfl rfl rfl ?_
        first | refine vm_r_iinc3N (y := 1) rfl rfl ?_ | refine vm_r_iinc3 rfl rfl ?_
        refine vm_r_goto rfl ?_
        exact ih μ3 (f.tr (f3.g (by omega))) (s.f f3)
  · refine vm_r_iconst rfl ?_
    refine vm_r_ret rfl (fun h => by cases h) (vPM.pure h (by rw [if_neg hp]))
theorem vfd_5 {A B : Nat} (hA : A < 32768) (hB : B < 32768) : ¬ vfd (vd A) (vd B) < 5 ↔ A = B := by
  constructor
  · intro h
    refine v_ext hA hB fun k hk => ?_
    have y := fa_first_no (fun j => decide (vd A j ≠ vd B j)) 5 k (by have h' : ¬ fa_first (fun j => decide (vd A j ≠ vd B j)) 5 < 5 := h; omega)
    simp only [decide_eq_false_iff_not, Classical.not_not] at y
    exact y
  · rintro rfl h
    have y := fa_first_yes (fun j => decide (vd A j ≠ vd A j)) 5 h
    simp at y
theorem c_M_crosses (h : vM μ m z) (k : vOk z) (p g q : Int32) : vm_Ex E 6 n_M_crosses [.ref m, .int p, .int g, .int q] 0 0 μ (vPM μ m (o_crosses z p g q)) := by
  have hG := k.1.1
  have hP := k.1.2.1
  refine vm_start (D := 5) (by decide) rfl (Nat.le_of_ble_eq_true rfl) (k := k_M_crosses) rfl (L := [.ref m, .int p, .int g, .int q, .retAddr 0]) rfl ?_
  refine vm_r_aload_n rfl rfl rfl ?_
  refine vm_r_iload_n rfl rfl rfl ?_
  refine vm_r_cv2I rfl (by decide) (h.1.ob) (Nat.le_of_ble_eq_true rfl) (vm_Ex_le (by first | exact Nat.le_of_ble_eq_true rfl | omega) (c_M_isPerson h hP p)) ?_
  first | refine vm_r_if_eqB rfl (fun hp => ?_) (fun hp => ?_) | refine vm_r_if_eqN rfl (by omega) (fun hp => ?_) (fun hp => ?_) | refine vm_r_if_eq rfl (fun hp => ?_) (fun hp => ?_)
  · refine vm_r_iconst rfl ?_
    refine vm_r_ret rfl (fun h => by cases h) (vPM.pure h (by rw [if_neg (fun y => hp y.1)]))
  · refine vm_r_aload_n rfl rfl rfl ?_
    refine vm_r_iload_n rfl rfl rfl ?_
    refine vm_r_cv2I rfl (by decide) (h.1.ob) (Nat.le_of_ble_eq_true rfl) (vm_Ex_le (by first | exact Nat.le_of_ble_eq_true rfl | omega) (c_M_isGate h hG g)) ?_
    first | refine vm_r_if_eqB rfl (fun hg => ?_) (fun hg => ?_) | refine vm_r_if_eqN rfl (by omega) (fun hg => ?_) (fun hg => ?_) | refine vm_r_if_eq rfl (fun hg => ?_) (fun hg => ?_)
    · refine vm_r_iconst rfl ?_
      refine vm_r_ret rfl (fun h => by cases h) (vPM.pure h (by rw [if_neg (fun y => hg y.2.1)]))
    · refine vm_r_aload_n rfl rfl rfl ?_
      refine vm_r_iload_n rfl rfl rfl ?_
      refine vm_r_cv2I rfl (by decide) (h.1.ob) (Nat.le_of_ble_eq_true rfl) (vm_Ex_le (by first | exact Nat.le_of_ble_eq_true rfl | omega) (c_M_isGate h hG q)) ?_
      first | refine vm_r_if_eqB rfl (fun hq => ?_) (fun hq => ?_) | refine vm_r_if_eqN rfl (by omega) (fun hq => ?_) (fun hq => ?_) | refine vm_r_if_eq rfl (fun hq => ?_) (fun hq => ?_)
      · refine vm_r_iconst rfl ?_
        refine vm_r_ret rfl (fun h => by cases h) (vPM.pure h (by rw [if_neg (fun y => hq y.2.2.1)]))
      · refine vm_r_iload_n rfl rfl rfl ?_
        refine vm_r_iload_n rfl rfl rfl ?_
        refine vm_r_icmp_ne rfl (fun e => ?_) (fun e => ?_)
        · have hv0 : vix p (tP (zT z)) ∧ vix g (tG (zT z)) ∧ vix q (tG (zT z)) ∧ ¬ g = q := ⟨hp, hg, hq, e⟩
          obtain ⟨i, hi, rfl⟩ := vix_n (by omega) hp
          obtain ⟨j, hj, rfl⟩ := vix_n (by omega) hg
          obtain ⟨c, hc, rfl⟩ := vix_n (by omega) hq
          unfold o_crosses
          rw [if_pos hv0, nn_nI (by omega), nn_nI (by omega), nn_nI (by omega)]
          refine vm_r_aload_n rfl rfl rfl ?_
          refine vm_r_cv1V rfl (by decide) (h.1.ob) (Nat.le_of_ble_eq_true rfl) (vm_Ex_le (by first | exact Nat.le_of_ble_eq_true rfl | omega) (c_M_aside h.1)) (fun μ1 q1 => ?_)
          refine vm_r_iconst (kI := nI 0) rfl ?_
          refine vm_r_istore4 rfl rfl ?_
          obtain ⟨f1, e1⟩ := q1
          have step : ∀ (a : Nat) (μ' : vm_M) (T' : vt_T), a ≤ 60 → vg μ μ' m → vSd μ' m T' → T'.1 = (zT z).1 → vcrs i j c (60 - a) a T' = vcrs i j c 60 0 (zT z) → (∀ μ2, vg μ μ2 m → ¬ tA T' j = tA T' c → vadm T' (tB T' i) (if a % 2 = 0 then j else c) → vSd μ2 m (vvis T' i (if a % 2 = 0 then j else c)) → vm_W E (vm_Ex E 5) k_M_crosses (vPM μ m (vcrs i j c 60 0 (zT z), z)) (38, [.ref m, .int (nI i), .int (nI j), .int (nI c), .int (nI (a + 1))], [], 0, 0, μ2)) → vm_W E (vm_Ex E 5) k_M_crosses (vPM μ m (vcrs i j c 60 0 (zT z), z)) (38, [.ref m, .int (nI i), .int (nI j), .int (nI c), .int (nI a)], [], 0, 0, μ') := by
            intro a μ' T' ha f s eT hv hn
            have eG : tG T' = tG (zT z) := congrArg Prod.fst eT
            have eP : tP T' = tP (zT z) := congrArg Prod.snd eT
            have hA := s.2.2.2.A (g := j) (by omega)
            have hB := s.2.2.2.A (g := c) (by omega)
            have h5 := vfd_5 hA.1 hB.1
            have hx : ∀ x, vcrs i j c x a T' = if tA T' j = tA T' c then nI a else match x with | 0 => -4 | f + 1 => if vadm T' (tB T' i) (if a % 2 = 0 then j else c) then vcrs i j c f (a + 1) (vvis T' i (if a % 2 = 0 then j else c)) else -4 := fun x => by cases x <;> rfl
            rw [hx] at hv
            refine vm_r_iload rfl rfl ?_
            refine vm_r_bipush (kI := nI 60) rfl ?_
            first | refine vm_r_icmp_gtN rfl (by omega) (by omega) (fun hn => absurd hn (by omega)) (fun _ => ?_) | refine vm_r_icmp_gt rfl (fun hn => absurd hn (by omega)) (fun _ => ?_)
            refine vm_r_aload_n rfl rfl rfl ?_
            refine vm_r_iconst (kI := nI 5) rfl ?_
            refine vm_r_iload_n rfl rfl rfl ?_
            first | refine vm_r_imulN rfl ?_ | refine vm_r_imul rfl ?_
            refine vm_r_iconst (kI := nI 5) rfl ?_
            refine vm_r_iload_n rfl rfl rfl ?_
            first | refine vm_r_imulN rfl ?_ | refine vm_r_imul rfl ?_
            refine vm_r_iconst (kI := nI 0) rfl ?_
            refine vm_r_cv4I rfl (by decide) (s.1.ob) (Nat.le_of_ble_eq_true rfl) (vm_Ex_le (by first | exact Nat.le_of_ble_eq_true rfl | omega) (c_M_first s.1 (f := vd (tA T' j)) (g := vd (tA T' c)) (fun k hk => ⟨vd_lt _ _, s.2.2.1.1 j k (by omega) hk⟩) (fun k hk => ⟨vd_lt _ _, s.2.2.1.1 c k (by omega) hk⟩) (by omega) (by omega))) ?_
            refine vm_r_bipush rfl ?_
            refine vm_r_icmp_ne rfl (fun o => ?_) (fun o => ?_)
            · have hne : ¬ tA T' j = tA T' c := fun y => o (vo_none.mpr (h5.mpr y))
              rw [if_neg hne] at hv
              have fin : ∀ (v2 : Int32) (μ2 : vm_M) (b : Nat), b = (if a % 2 = 0 then j else c) → (v2 = vm_bi (vadm T' (tB T' i) b) ∧ vg μ' μ2 m ∧ vSd μ2 m (vvis T' i b)) → vm_W E (vm_Ex E 5) k_M_crosses (vPM μ m (vcrs i j c 60 0 (zT z), z)) (81, [.ref m, .int (nI i), .int (nI j), .int (nI c), .int (nI a)], [.int v2], 0, 0, μ2) := by
                rintro v2 μ2 b rfl ⟨rfl, f2, s2⟩
                first | refine vm_r_if_neB rfl (fun ad => ?_) (fun ad => ?_) | refine vm_r_if_neN rfl (by omega) (fun ad => ?_) (fun ad => ?_) | refine vm_r_if_ne rfl (fun ad => ?_) (fun ad => ?_)
                · first | refine vm_r_iinc4N (y := 1) rfl rfl ?_ | refine vm_r_iinc4 rfl rfl ?_
                  refine vm_r_goto rfl ?_
                  exact hn μ2 (f.tr f2) hne ad s2
                · refine vm_r_bipush rfl ?_
                  refine vm_r_ret rfl (fun h => by cases h) (vPM.g h (f.tr f2) ?_)
                  rw [← hv]
                  cases 60 - a with
                  | zero => rfl
                  | succ n => exact (if_neg ad).symm
              refine vm_r_aload_n rfl rfl rfl ?_
              refine vm_r_iload_n rfl rfl rfl ?_
              refine vm_r_iload rfl rfl ?_
              refine vm_r_iconst (kI := nI 2) rfl ?_
              refine vm_r_iremN rfl (by omega) (by omega) (by omega) ?_
              first | refine vm_r_if_neB rfl (fun w => ?_) (fun w => ?_) | refine vm_r_if_neN rfl (by omega) (fun w => ?_) (fun w => ?_) | refine vm_r_if_ne rfl (fun w => ?_) (fun w => ?_)
              · refine vm_r_iload_n rfl rfl rfl ?_
                refine vm_r_cv3X rfl (by decide) (s.1.ob) (Nat.le_of_ble_eq_true rfl) (vm_Ex_le (by first | exact Nat.le_of_ble_eq_true rfl | omega) (c_M_goAsk s (by omega) (by omega))) (fun v2 μ2 q2 => ?_)
                exact fin v2 μ2 c (by rw [if_neg (by omega)]) q2
              · refine vm_r_iload_n rfl rfl rfl ?_
                refine vm_r_goto rfl ?_
                refine vm_r_cv3X rfl (by decide) (s.1.ob) (Nat.le_of_ble_eq_true rfl) (vm_Ex_le (by first | exact Nat.le_of_ble_eq_true rfl | omega) (c_M_goAsk s (by omega) (by omega))) (fun v2 μ2 q2 => ?_)
                exact fin v2 μ2 j (by rw [if_pos (by omega)]) q2
            · have heq : tA T' j = tA T' c := h5.mp (vo_none.mp (Classical.not_not.mp o))
              rw [if_pos heq] at hv
              refine vm_r_iload rfl rfl ?_
              refine vm_r_ret rfl (fun h => by cases h) (vPM.g h f hv)
          refine vm_up (P := fun a => ∀ (μ' : vm_M) (T' : vt_T), vg μ μ' m → vSd μ' m T' → T'.1 = (zT z).1 → vcrs i j c (60 - a) a T' = vcrs i j c 60 0 (zT z) → vm_W E (vm_Ex E 5) k_M_crosses (vPM μ m (vcrs i j c 60 0 (zT z), z)) (38, [.ref m, .int (nI i), .int (nI j), .int (nI c), .int (nI a)], [], 0, 0, μ')) (N := 60) ?_ ?_ 0 (by omega) μ1 (zT z) (f1.g (by omega)) (h.sd k.1 f1 e1) rfl rfl
          · intro μ' T' f s eT hv
            refine step 60 μ' T' (Nat.le_refl _) f s eT hv (fun μ2 f2 hne ad s2 => ?_)
            have hv' : (if tA T' j = tA T' c then nI 60 else -4) = vcrs i j c 60 0 (zT z) := hv
            rw [if_neg hne] at hv'
            refine vm_r_iload rfl rfl ?_
            refine vm_r_bipush (kI := nI 60) rfl ?_
            first | refine vm_r_icmp_gtN rfl (by omega) (by omega) (fun _ => ?_) (fun hn => absurd hn (by omega)) | refine vm_r_icmp_gt rfl (fun _ => ?_) (fun hn => absurd hn (by omega))
            refine vm_r_bipush rfl ?_
            refine vm_r_ret rfl (fun h => by cases h) (vPM.g h f2 hv')
          · intro a ha ih μ' T' f s eT hv
            refine step a μ' T' (by omega) f s eT hv (fun μ2 f2 hne ad s2 => ?_)
            rw [show 60 - a = 60 - (a + 1) + 1 by omega, vcrs_s, if_neg hne, if_pos ad] at hv
            exact ih μ2 _ f2 s2 ((vvis_1 _ _ _).1.trans eT) hv
        · refine vm_r_iconst rfl ?_
          refine vm_r_ret rfl (fun h => by cases h) (vPM.pure h (by rw [if_neg (fun y => e y.2.2.2)]))
end MAPI4
