/-! The model's acts; undone, kept, taken back. -/
def vHok (z : vZ) : Prop := (∀ j, j < zp z → vt_ok (zQ z j)) ∧ ∀ j, j < zk z → vt_ok (zR z j)
section MAPI2
variable {E : vm_V} {μ μ' : vm_M} {m : Nat} {z : vZ} {T : vt_T}
theorem c_M_ask (h : vM μ m z) (k : vOk z) (kh : vHok z) (p g : Int32) : vm_Ex E 6 n_M_ask [.ref m, .int p, .int g] 0 0 μ (vPM μ m (o_ask z p g)) := by
  have hG := k.1.1
  have hP := k.1.2.1
  unfold o_ask
  refine vm_start (D := 5) (by decide) rfl (Nat.le_of_ble_eq_true rfl) (k := k_M_ask) rfl (L := [.ref m, .int p, .int g, .retAddr 0]) rfl ?_
  refine vm_r_aload_n rfl rfl rfl ?_
  refine vm_r_iload_n rfl rfl rfl ?_
  refine vm_r_cv2I rfl (by decide) (h.1.ob) (Nat.le_of_ble_eq_true rfl) (vm_Ex_le (by first | exact Nat.le_of_ble_eq_true rfl | omega) (c_M_isPerson h hP p)) ?_
  first | refine vm_r_if_eqB rfl (fun hp => ?_) (fun hp => ?_) | refine vm_r_if_eqN rfl (by omega) (fun hp => ?_) (fun hp => ?_) | refine vm_r_if_eq rfl (fun hp => ?_) (fun hp => ?_)
  · rw [if_neg (fun q => hp q.1)]
    refine vm_r_iconst rfl ?_
    refine vm_r_ret rfl (fun h => by cases h) (vPM.pure h rfl)
  · refine vm_r_aload_n rfl rfl rfl ?_
    refine vm_r_iload_n rfl rfl rfl ?_
    refine vm_r_cv2I rfl (by decide) (h.1.ob) (Nat.le_of_ble_eq_true rfl) (vm_Ex_le (by first | exact Nat.le_of_ble_eq_true rfl | omega) (c_M_isGate h hG g)) ?_
    first | refine vm_r_if_neB rfl (fun hg => ?_) (fun hg => ?_) | refine vm_r_if_neN rfl (by omega) (fun hg => ?_) (fun hg => ?_) | refine vm_r_if_ne rfl (fun hg => ?_) (fun hg => ?_)
    · rw [if_pos ⟨hp, hg⟩]
      obtain ⟨i, hi, rfl⟩ := vix_n (by omega) hp
      obtain ⟨j, hj, rfl⟩ := vix_n (by omega) hg
      rw [nn_nI (by omega), nn_nI (by omega)]
      refine vm_r_aload_n rfl rfl rfl ?_
      refine vm_r_cv1V rfl (by decide) (h.1.ob) (Nat.le_of_ble_eq_true rfl) (vm_Ex_le (by first | exact Nat.le_of_ble_eq_true rfl | omega) (c_M_note h k kh.1)) (fun μ1 q1 => ?_)
      obtain ⟨x1, -, h1⟩ := q1
      refine vm_r_aload_n rfl rfl rfl ?_
      refine vm_r_cv1V rfl (by decide) (h1.1.ob) (Nat.le_of_ble_eq_true rfl) (vm_Ex_le (by first | exact Nat.le_of_ble_eq_true rfl | omega) (c_M_aside h1.1)) (fun μ2 q2 => ?_)
      obtain ⟨f2, e2⟩ := q2
      have s2 := h1.sd k.1 f2 e2
      have h2 := h1.g (f2.g (by omega))
      refine vm_r_aload_n rfl rfl rfl ?_
      refine vm_r_iload_n rfl rfl rfl ?_
      refine vm_r_iload_n rfl rfl rfl ?_
      refine vm_r_cv3X rfl (by decide) (s2.1.ob) (Nat.le_of_ble_eq_true rfl) (vm_Ex_le (by first | exact Nat.le_of_ble_eq_true rfl | omega) (c_M_goAsk s2 hi hj)) (fun v3 μ3 q3 => ?_)
      refine vm_r_istore_n3 rfl rfl rfl ?_
      obtain ⟨rfl, f3, s3⟩ := q3
      have h3 := h2.g f3
      refine vm_r_aload_n rfl rfl rfl ?_
      refine vm_r_cv1V rfl (by decide) (h3.1.ob) (Nat.le_of_ble_eq_true rfl) (vm_Ex_le (by first | exact Nat.le_of_ble_eq_true rfl | omega) (c_M_take h3.1)) (fun μ4 q4 => ?_)
      obtain ⟨f4, e4⟩ := q4
      have h4 := h3.now f4 (s3.2.2.1.cong s3.2.2.2 e4) (vvis_1 (zT z) i j)
      have x4 : vx μ μ4 m (m + 15) := ((x1.tr (f2.g (by omega)).x).tr f3.x).tr (f4.x.wd (by omega) (by omega))
      refine vm_r_iload_n rfl rfl rfl ?_
      first | refine vm_r_if_eqB rfl (fun e => ?_) (fun e => ?_) | refine vm_r_if_eqN rfl (by omega) (fun e => ?_) (fun e => ?_) | refine vm_r_if_eq rfl (fun e => ?_) (fun e => ?_)
      · refine vm_r_iconst (kI := nI 0) rfl ?_
        refine vm_r_ret rfl (fun h => by cases h) (⟨_, rfl, (vm_bi_f e).symm, x4, h4⟩)
      · refine vm_r_iconst (kI := nI 1) rfl ?_
        refine vm_r_goto rfl ?_
        refine vm_r_ret rfl (fun h => by cases h) (⟨_, rfl, (vm_bi_t e).symm, x4, h4⟩)
    · rw [if_neg (fun q => hg q.2)]
      refine vm_r_iconst rfl ?_
      refine vm_r_ret rfl (fun h => by cases h) (vPM.pure h rfl)
theorem c_M_goes {a b : Nat} {f g : Nat → Nat} {U : vt_T} (h : vM μ m z) (k : vOk z) (kh : vHok z) (hf : ∀ k, k < 5 → f k < 8 ∧ μ.2.1 (m + 5) (a + k) = nI (f k)) (hg : ∀ k, k < 5 → g k < 8 ∧ μ.2.1 (m + 5) (b + k) = nI (g k)) (ha : a + 5 ≤ 63) (hb : b + 5 ≤ 63)
    (hU : ∀ I I' : Nat → Int32, vRow I (zT z) → (∀ k, I' k = if vfd f g < 5 ∧ k = a + vfd f g then nI (vstep (f (vfd f g)) (g (vfd f g))) else I k) → vRow I' U) (eU : U.1 = (zT z).1 ∧ tK U = tK (zT z) ∧ tE U = tE (zT z)) (kU : vt_ok U) :
    vm_Ex E 4 n_M_goes [.ref m, .int (nI a), .int (nI b)] 0 0 μ (vPM μ m (if vfd f g < 5 then (nI (vfd f g), zput z U) else (-2, z))) := by
  refine vm_start (D := 3) (by decide) rfl (Nat.le_of_ble_eq_true rfl) (k := k_M_goes) rfl (L := [.ref m, .int (nI a), .int (nI b), .retAddr 0]) rfl ?_
  refine vm_r_aload_n rfl rfl rfl ?_
  refine vm_r_cv1V rfl (by decide) (h.1.ob) (Nat.le_of_ble_eq_true rfl) (vm_Ex_le (by first | exact Nat.le_of_ble_eq_true rfl | omega) (c_M_aside h.1)) (fun μ1 q1 => ?_)
  obtain ⟨f1, e1⟩ := q1
  have s1 := h.sd k.1 f1 e1
  have h1 := h.g (f1.g (by omega))
  refine vm_r_aload_n rfl rfl rfl ?_
  refine vm_r_iload_n rfl rfl rfl ?_
  refine vm_r_iload_n rfl rfl rfl ?_
  refine vm_r_cv3X rfl (by decide) (h1.1.ob) (Nat.le_of_ble_eq_true rfl) (vm_Ex_le (by first | exact Nat.le_of_ble_eq_true rfl | omega) (c_M_goNearer h1.1 (fun k hk => ⟨(hf k hk).1, (e1 _ (by omega)).trans (hf k hk).2⟩) (fun k hk => ⟨(hg k hk).1, (e1 _ (by omega)).trans (hg k hk).2⟩) ha hb)) (fun v2 μ2 q2 => ?_)
  obtain ⟨rfl, f2, e2⟩ := q2
  have h2 := h1.g (f2.g (by omega))
  refine vm_r_istore_n3 rfl rfl rfl ?_
  refine vm_r_iload_n rfl rfl rfl ?_
  refine vm_r_bipush rfl ?_
  refine vm_r_icmp_ne rfl (fun e => ?_) (fun e => ?_)
  · have hk := vo_neg e
    rw [if_pos hk, vo_lt hk]
    have r2 := hU _ _ s1.2.2.1 e2
    refine vm_r_aload_n rfl rfl rfl ?_
    refine vm_r_cv1V rfl (by decide) (h2.1.ob) (Nat.le_of_ble_eq_true rfl) (vm_Ex_le (by first | exact Nat.le_of_ble_eq_true rfl | omega) (c_M_note h2 k kh.1)) (fun μ3 q3 => ?_)
    obtain ⟨x3, e3, h3⟩ := q3
    refine vm_r_aload_n rfl rfl rfl ?_
    refine vm_r_cv1V rfl (by decide) (h3.1.ob) (Nat.le_of_ble_eq_true rfl) (vm_Ex_le (by first | exact Nat.le_of_ble_eq_true rfl | omega) (c_M_take h3.1)) (fun μ4 q4 => ?_)
    obtain ⟨f4, e4⟩ := q4
    have h4 := h3.now f4 (r2.cong kU (fun k hk => (e4 k hk).trans (congrFun e3 k))) eU
    refine vm_r_iload_n rfl rfl rfl ?_
    refine vm_r_ret rfl (fun h => by cases h) (⟨_, rfl, rfl, ((((f1.g (by omega)).tr (f2.g (by omega))).x).tr x3).tr (f4.x.wd (by omega) (by omega)), h4⟩)
  · have hk := vo_none.mp (Classical.not_not.mp e)
    rw [if_neg hk]
    refine vm_r_bipush rfl ?_
    refine vm_r_ret rfl (fun h => by cases h) (vPM.g h ((f1.g (by omega)).tr (f2.g (by omega))) rfl)
theorem c_M_talk (h : vM μ m z) (k : vOk z) (kh : vHok z) (p q : Int32) : vm_Ex E 5 n_M_talk [.ref m, .int p, .int q] 0 0 μ (vPM μ m (o_talk z p q)) := by
  have hP := k.1.2.1
  have c := h.2.2.2.1
  unfold o_talk
  refine vm_start (D := 4) (by decide) rfl (Nat.le_of_ble_eq_true rfl) (k := k_M_talk) rfl (L := [.ref m, .int p, .int q]) rfl ?_
  refine vm_r_aload_n rfl rfl rfl ?_
  refine vm_r_iload_n rfl rfl rfl ?_
  refine vm_r_cv2I rfl (by decide) (h.1.ob) (Nat.le_of_ble_eq_true rfl) (vm_Ex_le (by first | exact Nat.le_of_ble_eq_true rfl | omega) (c_M_isPerson h hP p)) ?_
  first | refine vm_r_if_eqB rfl (fun hp => ?_) (fun hp => ?_) | refine vm_r_if_eqN rfl (by omega) (fun hp => ?_) (fun hp => ?_) | refine vm_r_if_eq rfl (fun hp => ?_) (fun hp => ?_)
  · rw [if_neg (fun y => hp y.1)]
    refine vm_r_iconst rfl ?_
    refine vm_r_goto rfl ?_
    refine vm_r_ret rfl (fun h => by cases h) (vPM.pure h rfl)
  · refine vm_r_aload_n rfl rfl rfl ?_
    refine vm_r_iload_n rfl rfl rfl ?_
    refine vm_r_cv2I rfl (by decide) (h.1.ob) (Nat.le_of_ble_eq_true rfl) (vm_Ex_le (by first | exact Nat.le_of_ble_eq_true rfl | omega) (c_M_isPerson h hP q)) ?_
    first | refine vm_r_if_eqB rfl (fun hq => ?_) (fun hq => ?_) | refine vm_r_if_eqN rfl (by omega) (fun hq => ?_) (fun hq => ?_) | refine vm_r_if_eq rfl (fun hq => ?_) (fun hq => ?_)
    · rw [if_neg (fun y => hq y.2.1)]
      refine vm_r_iconst rfl ?_
      refine vm_r_goto rfl ?_
      refine vm_r_ret rfl (fun h => by cases h) (vPM.pure h rfl)
    · refine vm_r_iload_n rfl rfl rfl ?_
      refine vm_r_iload_n rfl rfl rfl ?_
      refine vm_r_icmp_ne rfl (fun e => ?_) (fun e => ?_)
      · rw [if_pos ⟨hp, hq, e⟩]
        obtain ⟨i, hi, rfl⟩ := vix_n (by omega) hp
        obtain ⟨j, hj, rfl⟩ := vix_n (by omega) hq
        rw [nn_nI (by omega), nn_nI (by omega)]
        refine vm_r_aload_n rfl rfl rfl ?_
        refine vm_r_bipush (kI := nI 25) rfl ?_
        refine vm_r_iconst (kI := nI 5) rfl ?_
        refine vm_r_iload_n rfl rfl rfl ?_
        first | refine vm_r_imulN rfl ?_ | refine vm_r_imul rfl ?_
        first | refine vm_r_iaddN rfl ?_ | refine vm_r_iadd rfl ?_
        refine vm_r_bipush (kI := nI 25) rfl ?_
        refine vm_r_iconst (kI := nI 5) rfl ?_
        refine vm_r_iload_n rfl rfl rfl ?_
        first | refine vm_r_imulN rfl ?_ | refine vm_r_imul rfl ?_
        first | refine vm_r_iaddN rfl ?_ | refine vm_r_iadd rfl ?_
        refine vm_r_cv3X rfl (by decide) (h.1.ob) (Nat.le_of_ble_eq_true rfl) (vm_Ex_le (by first | exact Nat.le_of_ble_eq_true rfl | omega) (c_M_goes h k kh (f := vd (tB (zT z) i)) (g := vd (tB (zT z) j)) (U := vcon (zT z) i j) (fun k hk => ⟨vd_lt _ _, c.2.1 i k hi hk⟩) (fun k hk => ⟨vd_lt _ _, c.2.1 j k hj hk⟩) (by omega) (by omega) (fun I I' r e => r.con k.1 hi hj e) ⟨rfl, rfl, rfl⟩ (vcon_ok k.1 hi hj))) (fun v1 μ1 q1 => ?_)
        refine vm_r_ret rfl (fun h => by cases h) (⟨_, rfl, q1⟩)
      · rw [if_neg (fun y => e y.2.2)]
        refine vm_r_iconst rfl ?_
        refine vm_r_goto rfl ?_
        refine vm_r_ret rfl (fun h => by cases h) (vPM.pure h rfl)
theorem c_M_listen (h : vM μ m z) (k : vOk z) (kh : vHok z) (p q : Int32) : vm_Ex E 5 n_M_listen [.ref m, .int p, .int q] 0 0 μ (vPM μ m (o_listen z p q)) := by
  have hG := k.1.1
  have c := h.2.2.2.1
  unfold o_listen
  refine vm_start (D := 4) (by decide) rfl (Nat.le_of_ble_eq_true rfl) (k := k_M_listen) rfl (L := [.ref m, .int p, .int q]) rfl ?_
  refine vm_r_aload_n rfl rfl rfl ?_
  refine vm_r_iload_n rfl rfl rfl ?_
  refine vm_r_cv2I rfl (by decide) (h.1.ob) (Nat.le_of_ble_eq_true rfl) (vm_Ex_le (by first | exact Nat.le_of_ble_eq_true rfl | omega) (c_M_isGate h hG p)) ?_
  first | refine vm_r_if_eqB rfl (fun hp => ?_) (fun hp => ?_) | refine vm_r_if_eqN rfl (by omega) (fun hp => ?_) (fun hp => ?_) | refine vm_r_if_eq rfl (fun hp => ?_) (fun hp => ?_)
  · rw [if_neg (fun y => hp y.1)]
    refine vm_r_iconst rfl ?_
    refine vm_r_goto rfl ?_
    refine vm_r_ret rfl (fun h => by cases h) (vPM.pure h rfl)
  · refine vm_r_aload_n rfl rfl rfl ?_
    refine vm_r_iload_n rfl rfl rfl ?_
    refine vm_r_cv2I rfl (by decide) (h.1.ob) (Nat.le_of_ble_eq_true rfl) (vm_Ex_le (by first | exact Nat.le_of_ble_eq_true rfl | omega) (c_M_isGate h hG q)) ?_
    first | refine vm_r_if_eqB rfl (fun hq => ?_) (fun hq => ?_) | refine vm_r_if_eqN rfl (by omega) (fun hq => ?_) (fun hq => ?_) | refine vm_r_if_eq rfl (fun hq => ?_) (fun hq => ?_)
    · rw [if_neg (fun y => hq y.2.1)]
      refine vm_r_iconst rfl ?_
      refine vm_r_goto rfl ?_
      refine vm_r_ret rfl (fun h => by cases h) (vPM.pure h rfl)
    · refine vm_r_iload_n rfl rfl rfl ?_
      refine vm_r_iload_n rfl rfl rfl ?_
      refine vm_r_icmp_ne rfl (fun e => ?_) (fun e => ?_)
      · rw [if_pos ⟨hp, hq, e⟩]
        obtain ⟨i, hi, rfl⟩ := vix_n (by omega) hp
        obtain ⟨j, hj, rfl⟩ := vix_n (by omega) hq
        rw [nn_nI (by omega), nn_nI (by omega)]
        refine vm_r_aload_n rfl rfl rfl ?_
        refine vm_r_iconst (kI := nI 5) rfl ?_
        refine vm_r_iload_n rfl rfl rfl ?_
        first | refine vm_r_imulN rfl ?_ | refine vm_r_imul rfl ?_
        refine vm_r_iconst (kI := nI 5) rfl ?_
        refine vm_r_iload_n rfl rfl rfl ?_
        first | refine vm_r_imulN rfl ?_ | refine vm_r_imul rfl ?_
        refine vm_r_cv3X rfl (by decide) (h.1.ob) (Nat.le_of_ble_eq_true rfl) (vm_Ex_le (by first | exact Nat.le_of_ble_eq_true rfl | omega) (c_M_goes h k kh (f := vd (tA (zT z) i)) (g := vd (tA (zT z) j)) (U := vlis (zT z) i j) (fun k hk => ⟨vd_lt _ _, c.1 i k hi hk⟩) (fun k hk => ⟨vd_lt _ _, c.1 j k hj hk⟩) (by omega) (by omega) (fun I I' r e => r.lis k.1 hi hj e) ⟨rfl, rfl, rfl⟩ (vlis_ok k.1 hi hj))) (fun v1 μ1 q1 => ?_)
        refine vm_r_ret rfl (fun h => by cases h) (⟨_, rfl, q1⟩)
      · rw [if_neg (fun y => e y.2.2)]
        refine vm_r_iconst rfl ?_
        refine vm_r_goto rfl ?_
        refine vm_r_ret rfl (fun h => by cases h) (vPM.pure h rfl)
theorem c_M_undo (h : vM μ m z) (k : vOk z) (kh : vHok z) : vm_Ex E 1 n_M_undo [.ref m] 0 0 μ (vPM μ m (o_undo z)) := by
  have hp := k.2.2.2.1
  unfold o_undo
  refine vm_start (D := 0) (by decide) rfl (Nat.le_of_ble_eq_true rfl) (k := k_M_undo) rfl (L := [.ref m, .retAddr 0]) rfl ?_
  refine vm_r_aload_n rfl rfl rfl ?_
  refine vm_r_getI rfl (h.1.g8 h.2.2.2.2.1.1) ?_
  first | refine vm_r_if_neB rfl (fun e => ?_) (fun e => ?_) | refine vm_r_if_neN rfl (by omega) (fun e => ?_) (fun e => ?_) | refine vm_r_if_ne rfl (fun e => ?_) (fun e => ?_)
  · rw [if_pos e]
    obtain ⟨h0, ha, hb, hc, hd, he, hf, hg⟩ := h
    have hv := k.2.2.2.2.2.2.1 (zp z - 1) (by omega)
    have ho := kh.1 (zp z - 1) (by omega)
    refine vm_r_aload_n rfl rfl rfl ?_
    refine vm_r_dup rfl rfl ?_
    refine vm_r_getI rfl (h0.g8 hd.1) ?_
    refine vm_r_iconst (kI := nI 1) rfl ?_
    first | refine vm_r_isubN rfl (by omega) ?_ | refine vm_r_isub rfl ?_
    refine vm_r_putI rfl (h0.w8) ?_
    refine vm_r_iconst (kI := nI 0) rfl ?_
    refine vm_r_istore_n1 rfl rfl rfl ?_
    refine vm_up (P := fun i => ∀ μ' : vm_M, vf (vm_mI μ m 8 (nI (zp z - 1))) μ' (m + 5) (m + 5) → (∀ k, k < i → μ'.2.1 (m + 5) k = μ.2.1 (m + 7) (63 * (zp z - 1) + k)) → vm_W E (vm_Ex E 0) k_M_undo _ (22, [.ref m, .int (nI i)], [], 0, 0, μ')) (N := 63) ?_ ?_ 0 (by omega) _ vf.rf (fun k hk => by omega)
    · intro μ' f e1
      have h' : vMh μ'.1 m := by rw [f.1]; exact h0
      have g8 : μ'.2.1 m 8 = nI (zp z - 1) := by rw [f.2.2 _ (by omega), rI_eq]
      have g : ∀ o, o ≠ m → o ≠ m + 5 → μ'.2.1 o = μ.2.1 o := fun o o1 o2 => by rw [f.2.2 _ (by omega), rI_no2 o1]
      have gm : ∀ k, k ≠ 8 → μ'.2.1 m k = μ.2.1 m k := fun k o1 => by rw [f.2.2 _ (by omega), rI_nk o1]
      refine vm_r_iload_n rfl rfl rfl ?_
      refine vm_r_bipush (kI := nI 63) rfl ?_
      first | refine vm_r_icmp_geN rfl (by omega) (by omega) (fun _ => ?_) (fun hn => absurd hn (by omega)) | refine vm_r_icmp_ge rfl (fun _ => ?_) (fun hn => absurd hn (by omega))
      refine vm_r_aload_n rfl rfl rfl ?_
      refine vm_r_getI rfl (h'.g8 g8) ?_
      refine vm_r_ret rfl (fun h => by cases h) (⟨_, rfl, rfl, ?_, h', vMI.mk ?_ ?_ ?_ ⟨g8, ?_⟩ ?_ ?_ ?_⟩)
      · exact ((vf.mI (Nat.le_refl m) (by omega) : vf _ _ m (m + 15)).tr (f.wd (by omega) (by omega))).x
      · rw [gm 0 (by omega), g _ (by omega) (by omega)]; exact ha
      · rw [g _ (by omega) (by omega)]; exact hb.up hv
      · exact (hd.2 (zp z - 1) (by omega)).cong ho e1
      · rw [g _ (by omega) (by omega)]
        intro j hj
        have hj : j < zp z - 1 := hj
        exact hd.2 j (by omega)
      · rw [gm 10 (by omega), g (m + 8) (by omega) (by omega)]; exact he
      · rw [gm 12 (by omega), g (m + 9) (by omega) (by omega)]; exact hf
      · rw [gm 14 (by omega), g (m + 10) (by omega) (by omega)]; exact hg
    · intro i hi ih μ' f e1
      have h' : vMh μ'.1 m := by rw [f.1]; exact h0
      have g8 : μ'.2.1 m 8 = nI (zp z - 1) := by rw [f.2.2 _ (by omega), rI_eq]
      refine vm_r_iload_n rfl rfl rfl ?_
      refine vm_r_bipush (kI := nI 63) rfl ?_
      first | refine vm_r_icmp_geN rfl (by omega) (by omega) (fun hn => absurd hn (by omega)) (fun _ => ?_) | refine vm_r_icmp_ge rfl (fun hn => absurd hn (by omega)) (fun _ => ?_)
      refine vm_r_aload_n rfl rfl rfl ?_
      refine vm_r_getR rfl (h'.r5) ?_
      refine vm_r_iload_n rfl rfl rfl ?_
      refine vm_r_aload_n rfl rfl rfl ?_
      refine vm_r_getR rfl (h'.r7) ?_
      refine vm_r_bipush (kI := nI 63) rfl ?_
      refine vm_r_aload_n rfl rfl rfl ?_
      refine vm_r_getI rfl (h'.g8 g8) ?_
      first | refine vm_r_imulN rfl ?_ | refine vm_r_imul rfl ?_
      refine vm_r_iload_n rfl rfl rfl ?_
      first | refine vm_r_iaddN rfl ?_ | refine vm_r_iadd rfl ?_
      refine vm_r_iaload rfl (h'.s7) (by omega) (by omega) (rfl) ?_
      refine vm_r_iastore rfl (h'.s5) (by omega) (by omega) ?_
      first | refine vm_r_iinc1N (y := 1) rfl rfl ?_ | refine vm_r_iinc1 rfl rfl ?_
      refine vm_r_goto rfl ?_
      refine ih _ (f.tr (vf.mI (Nat.le_refl _) (Nat.le_refl _))) (fun k hk => ?_)
      by_cases y : k = i
      · subst y
        rw [rI_eq, f.2.2 _ (by omega), rI_no2 (by omega)]
      · rw [rI_nk (by omega)]
        exact e1 k (by omega)
  · rw [if_neg (by omega)]
    refine vm_r_bipush rfl ?_
    refine vm_r_ret rfl (fun h => by cases h) (vPM.pure h rfl)
theorem c_M_back (h : vM μ m z) (k : vOk z) (kh : vHok z) : vm_Ex E 1 n_M_back [.ref m] 0 0 μ (vPM μ m (o_back z)) := by
  have hp := k.2.2.2.2.1
  unfold o_back
  refine vm_start (D := 0) (by decide) rfl (Nat.le_of_ble_eq_true rfl) (k := k_M_back) rfl (L := [.ref m, .retAddr 0]) rfl ?_
  refine vm_r_aload_n rfl rfl rfl ?_
  refine vm_r_getI rfl (h.1.g10 h.2.2.2.2.2.1.1) ?_
  first | refine vm_r_if_neB rfl (fun e => ?_) (fun e => ?_) | refine vm_r_if_neN rfl (by omega) (fun e => ?_) (fun e => ?_) | refine vm_r_if_ne rfl (fun e => ?_) (fun e => ?_)
  · rw [if_pos e]
    obtain ⟨h0, ha, hb, hc, hd, he, hf, hg⟩ := h
    have hv := k.2.2.2.2.2.2.2.1 (zk z - 1) (by omega)
    have ho := kh.2 (zk z - 1) (by omega)
    refine vm_r_aload_n rfl rfl rfl ?_
    refine vm_r_dup rfl rfl ?_
    refine vm_r_getI rfl (h0.g10 he.1) ?_
    refine vm_r_iconst (kI := nI 1) rfl ?_
    first | refine vm_r_isubN rfl (by omega) ?_ | refine vm_r_isub rfl ?_
    refine vm_r_putI rfl (h0.w10) ?_
    refine vm_r_iconst (kI := nI 0) rfl ?_
    refine vm_r_istore_n1 rfl rfl rfl ?_
    refine vm_up (P := fun i => ∀ μ' : vm_M, vf (vm_mI μ m 10 (nI (zk z - 1))) μ' (m + 5) (m + 5) → (∀ k, k < i → μ'.2.1 (m + 5) k = μ.2.1 (m + 8) (63 * (zk z - 1) + k)) → vm_W E (vm_Ex E 0) k_M_back _ (22, [.ref m, .int (nI i)], [], 0, 0, μ')) (N := 63) ?_ ?_ 0 (by omega) _ vf.rf (fun k hk => by omega)
    · intro μ' f e1
      have h' : vMh μ'.1 m := by rw [f.1]; exact h0
      have h2 : vMh (vm_mI μ' m 8 (nI 0)).1 m := h'
      have g10 : (vm_mI μ' m 8 (nI 0)).2.1 m 10 = nI (zk z - 1) := by rw [rI_nk (by omega), f.2.2 _ (by omega), rI_eq]
      have g : ∀ o, o ≠ m → o ≠ m + 5 → (vm_mI μ' m 8 (nI 0)).2.1 o = μ.2.1 o := fun o o1 o2 => by rw [rI_no2 o1, f.2.2 _ (by omega), rI_no2 o1]
      have gm : ∀ k, k ≠ 10 → k ≠ 8 → (vm_mI μ' m 8 (nI 0)).2.1 m k = μ.2.1 m k := fun k o1 o2 => by rw [rI_nk o2, f.2.2 _ (by omega), rI_nk o1]
      refine vm_r_iload_n rfl rfl rfl ?_
      refine vm_r_bipush (kI := nI 63) rfl ?_
      first | refine vm_r_icmp_geN rfl (by omega) (by omega) (fun _ => ?_) (fun hn => absurd hn (by omega)) | refine vm_r_icmp_ge rfl (fun _ => ?_) (fun hn => absurd hn (by omega))
      refine vm_r_aload_n rfl rfl rfl ?_
      refine vm_r_iconst (kI := nI 0) rfl ?_
      refine vm_r_putI rfl (h'.w8) ?_
      refine vm_r_aload_n rfl rfl rfl ?_
      refine vm_r_getI rfl (h2.g10 g10) ?_
      refine vm_r_ret rfl (fun h => by cases h) (⟨_, rfl, rfl, ?_, h2, vMI.mk ?_ ?_ ?_ ?_ ⟨g10, ?_⟩ ?_ ?_⟩)
      · exact (((vf.mI (Nat.le_refl m) (by omega) : vf _ _ m (m + 15)).tr (f.wd (by omega) (by omega))).tr (vf.mI (Nat.le_refl m) (by omega))).x
      · rw [gm 0 (by omega) (by omega), g _ (by omega) (by omega)]; exact ha
      · rw [g _ (by omega) (by omega)]; exact hb.up hv
      · rw [rI_no2 (by omega)]
        exact (he.2 (zk z - 1) (by omega)).cong ho e1
      · exact ⟨rI_eq, fun j hj => by have hj : j < 0 := hj; omega⟩
      · rw [g _ (by omega) (by omega)]
        intro j hj
        have hj : j < zk z - 1 := hj
        exact he.2 j (by omega)
      · rw [gm 12 (by omega) (by omega), g (m + 9) (by omega) (by omega)]; exact hf
      · rw [gm 14 (by omega) (by omega), g (m + 10) (by omega) (by omega)]; exact hg
    · intro i hi ih μ' f e1
      have h' : vMh μ'.1 m := by rw [f.1]; exact h0
      have g10 : μ'.2.1 m 10 = nI (zk z - 1) := by rw [f.2.2 _ (by omega), rI_eq]
      refine vm_r_iload_n rfl rfl rfl ?_
      refine vm_r_bipush (kI := nI 63) rfl ?_
      first | refine vm_r_icmp_geN rfl (by omega) (by omega) (fun hn => absurd hn (by omega)) (fun _ => ?_) | refine vm_r_icmp_ge rfl (fun hn => absurd hn (by omega)) (fun _ => ?_)
      refine vm_r_aload_n rfl rfl rfl ?_
      refine vm_r_getR rfl (h'.r5) ?_
      refine vm_r_iload_n rfl rfl rfl ?_
      refine vm_r_aload_n rfl rfl rfl ?_
      refine vm_r_getR rfl (h'.r8) ?_
      refine vm_r_bipush (kI := nI 63) rfl ?_
      refine vm_r_aload_n rfl rfl rfl ?_
      refine vm_r_getI rfl (h'.g10 g10) ?_
      first | refine vm_r_imulN rfl ?_ | refine vm_r_imul rfl ?_
      refine vm_r_iload_n rfl rfl rfl ?_
      first | refine vm_r_iaddN rfl ?_ | refine vm_r_iadd rfl ?_
      refine vm_r_iaload rfl (h'.s8) (by omega) (by omega) (rfl) ?_
      refine vm_r_iastore rfl (h'.s5) (by omega) (by omega) ?_
      first | refine vm_r_iinc1N (y := 1) rfl rfl ?_ | refine vm_r_iinc1 rfl rfl ?_
      refine vm_r_goto rfl ?_
      refine ih _ (f.tr (vf.mI (Nat.le_refl _) (Nat.le_refl _))) (fun k hk => ?_)
      by_cases y : k = i
      · subst y
        rw [rI_eq, f.2.2 _ (by omega), rI_no2 (by omega)]
      · rw [rI_nk (by omega)]
        exact e1 k (by omega)
  · rw [if_neg (by omega)]
    refine vm_r_bipush rfl ?_
    refine vm_r_ret rfl (fun h => by cases h) (vPM.pure h rfl)
theorem c_M_keep (h : vM μ m z) (k : vOk z) (kh : vHok z) : vm_Ex E 1 n_M_keep [.ref m] 0 0 μ (vPM μ m (o_keep z)) := by
  have hp := k.2.2.2.2.1
  unfold o_keep
  refine vm_start (D := 0) (by decide) rfl (Nat.le_of_ble_eq_true rfl) (k := k_M_keep) rfl (L := [.ref m, .retAddr 0]) rfl ?_
  refine vm_r_aload_n rfl rfl rfl ?_
  refine vm_r_getI rfl (h.1.g10 h.2.2.2.2.2.1.1) ?_
  refine vm_r_iconst (kI := nI 2) rfl ?_
  first | refine vm_r_icmp_neN rfl (by omega) (by omega) (fun e => ?_) (fun e => ?_) | refine vm_r_icmp_ne rfl (fun e => ?_) (fun e => ?_)
  · rw [if_pos (by omega)]
    obtain ⟨h0, ha, hb, hc, hd, he, hf, hg⟩ := h
    refine vm_r_iconst (kI := nI 0) rfl ?_
    refine vm_r_istore_n1 rfl rfl rfl ?_
    refine vm_up (P := fun i => ∀ μ' : vm_M, vf μ μ' (m + 8) (m + 8) → (∀ k, k < i → μ'.2.1 (m + 8) (63 * zk z + k) = μ.2.1 (m + 5) k) → (∀ k, k < 63 * zk z → μ'.2.1 (m + 8) k = μ.2.1 (m + 8) k) → vm_W E (vm_Ex E 0) k_M_keep _ (13, [.ref m, .int (nI i)], [], 0, 0, μ')) (N := 63) ?_ ?_ 0 (by omega) μ vf.rf (fun k hk => by omega) (fun _ _ => rfl)
    · intro μ' f e1 e2
      have h' : vMh μ'.1 m := by rw [f.1]; exact h0
      have g10 : μ'.2.1 m 10 = nI (zk z) := by rw [f.2.2 _ (by omega)]; exact he.1
      have h2 : vMh (vm_mI μ' m 10 (nI (zk z + 1))).1 m := h'
      have g : ∀ o, o ≠ m → o ≠ m + 8 → (vm_mI μ' m 10 (nI (zk z + 1))).2.1 o = μ.2.1 o := fun o o1 o2 => by rw [rI_no2 o1, f.2.2 _ (by omega)]
      have gm : ∀ k, k ≠ 10 → (vm_mI μ' m 10 (nI (zk z + 1))).2.1 m k = μ.2.1 m k := fun k o1 => by rw [rI_nk o1, f.2.2 _ (by omega)]
      refine vm_r_iload_n rfl rfl rfl ?_
      refine vm_r_bipush (kI := nI 63) rfl ?_
      first | refine vm_r_icmp_geN rfl (by omega) (by omega) (fun _ => ?_) (fun hn => absurd hn (by omega)) | refine vm_r_icmp_ge rfl (fun _ => ?_) (fun hn => absurd hn (by omega))
      refine vm_r_aload_n rfl rfl rfl ?_
      refine vm_r_dup rfl rfl ?_
      refine vm_r_getI rfl (h'.g10 g10) ?_
      refine vm_r_iconst (kI := nI 1) rfl ?_
      first | refine vm_r_iaddN rfl ?_ | refine vm_r_iadd rfl ?_
      refine vm_r_putI rfl (h'.w10) ?_
      refine vm_r_aload_n rfl rfl rfl ?_
      refine vm_r_getI rfl (h2.g10 rI_eq) ?_
      refine vm_r_ret rfl (fun h => by cases h) (⟨_, rfl, rfl, ?_, h2, vMI.mk ?_ ?_ ?_ ?_ ⟨rI_eq, ?_⟩ ?_ ?_⟩)
      · exact ((f.wd (by omega) (by omega)).tr (vf.mI (Nat.le_refl m) (by omega) : vf _ _ m (m + 15))).x
      · rw [gm 0 (by omega), g _ (by omega) (by omega)]; exact ha
      · rw [g _ (by omega) (by omega)]; exact hb
      · rw [g _ (by omega) (by omega)]; exact hc
      · rw [gm 8 (by omega), g _ (by omega) (by omega)]; exact hd
      · intro j hj
        have hj : j < zk z + 1 := hj
        show vRow (fun i => (vm_mI μ' m 10 (nI (zk z + 1))).2.1 (m + 8) (63 * j + i)) (vu (zR z) (zk z) (zT z) j)
        by_cases y : j = zk z
        · subst y
          rw [vu_eq]
          refine vRow.cong hc k.1 (fun i hi => ?_)
          show (vm_mI μ' m 10 (nI (zk z + 1))).2.1 (m + 8) (63 * zk z + i) = _
          rw [rI_no (by omega)]
          exact e1 i hi
        · rw [vu_ne y]
          refine vRow.cong (he.2 j (by omega)) (kh.2 j (by omega)) (fun i hi => ?_)
          show (vm_mI μ' m 10 (nI (zk z + 1))).2.1 (m + 8) (63 * j + i) = _
          rw [rI_no (by omega)]
          exact e2 _ (by omega)
      · rw [gm 12 (by omega), g (m + 9) (by omega) (by omega)]; exact hf
      · rw [gm 14 (by omega), g (m + 10) (by omega) (by omega)]; exact hg
    · intro i hi ih μ' f e1 e2
      have h' : vMh μ'.1 m := by rw [f.1]; exact h0
      have g10 : μ'.2.1 m 10 = nI (zk z) := by rw [f.2.2 _ (by omega)]; exact he.1
      refine vm_r_iload_n rfl rfl rfl ?_
      refine vm_r_bipush (kI := nI 63) rfl ?_
      first | refine vm_r_icmp_geN rfl (by omega) (by omega) (fun hn => absurd hn (by omega)) (fun _ => ?_) | refine vm_r_icmp_ge rfl (fun hn => absurd hn (by omega)) (fun _ => ?_)
      refine vm_r_aload_n rfl rfl rfl ?_
      refine vm_r_getR rfl (h'.r8) ?_
      refine vm_r_bipush (kI := nI 63) rfl ?_
      refine vm_r_aload_n rfl rfl rfl ?_
      refine vm_r_getI rfl (h'.g10 g10) ?_
      first | refine vm_r_imulN rfl ?_ | refine vm_r_imul rfl ?_
      refine vm_r_iload_n rfl rfl rfl ?_
      first | refine vm_r_iaddN rfl ?_ | refine vm_r_iadd rfl ?_
      refine vm_r_aload_n rfl rfl rfl ?_
      refine vm_r_getR rfl (h'.r5) ?_
      refine vm_r_iload_n rfl rfl rfl ?_
      refine vm_r_iaload rfl (h'.s5) (by omega) (by omega) (rfl) ?_
      refine vm_r_iastore rfl (h'.s8) (by omega) (by omega) ?_
      first | refine vm_r_iinc1N (y := 1) rfl rfl ?_ | refine vm_r_iinc1 rfl rfl ?_
      refine vm_r_goto rfl ?_
      refine ih _ (f.tr (vf.mI (Nat.le_refl _) (Nat.le_refl _))) (fun k hk => ?_) (fun k hk => ?_)
      · by_cases y : k = i
        · subst y
          rw [rI_eq, f.2.2 _ (by omega)]
        · rw [rI_nk (by omega)]
          exact e1 k (by omega)
      · rw [rI_nk (by omega)]
        exact e2 k hk
  · rw [if_neg (by omega)]
    refine vm_r_bipush rfl ?_
    refine vm_r_ret rfl (fun h => by cases h) (vPM.pure h rfl)
end MAPI2
