/-! The class's methods: chance, years, counts. -/
theorem v_le_sm {f : Nat → Nat} {n k : Nat} (h : k < n) : f k ≤ fb_sm f n := by
  induction n with
  | zero => omega
  | succ n ih =>
    rw [fb_sm_s]
    by_cases e : k = n
    · subst e
      omega
    · have := ih (by omega)
      omega
theorem v_sm_le {f g : Nat → Nat} : ∀ n, (∀ k, k < n → f k ≤ g k) → fb_sm f n ≤ fb_sm g n
  | 0, _ => Nat.le_refl _
  | n + 1, h => by
    have := v_sm_le n (fun k hk => h k (by omega))
    have := h n (by omega)
    rw [fb_sm_s, fb_sm_s]
    omega
theorem v_sm_mono (f : Nat → Nat) {i n : Nat} (h : i ≤ n) : fb_sm f i ≤ fb_sm f n := by
  induction n with
  | zero => obtain rfl : i = 0 := by omega
            exact Nat.le_refl _
  | succ n ih =>
    rw [fb_sm_s]
    by_cases e : i = n + 1
    · subst e
      rw [fb_sm_s]
      exact Nat.le_refl _
    · have := ih (by omega)
      omega
theorem vm_tsN {p n n' j a : Nat} {df hi off : Int} {os : Array Int} {st : List Value} (hj : j < 2 ^ 31) (hh : (j : Int) ≤ hi) (ho : os[j]? = some off) (hn : (p : Int) + off = (n' : Int)) : vm_br p (.tableswitch df 0 hi os) a n (.int (nI j) :: st) st n' := by
  refine Or.inr (Or.inr (Or.inr (Or.inr (Or.inr ⟨df, 0, hi, os, nI j, rfl, rfl, Or.inr ⟨off, ?_, ?_, ?_, hn⟩⟩))))
  · rw [nI_toInt hj]
    omega
  · rw [nI_toInt hj]
    omega
  · rw [nI_toInt hj]
    have e : ((j : Int) - 0).toNat = j := by omega
    rw [e]
    exact ho
theorem vm_tsD {p n n' a H : Nat} {df : Int} {os : Array Int} {st : List Value} {x : Int32} (hx : ¬ (0 ≤ x ∧ x ≤ nI H)) (hH : H < 2 ^ 31) (hn : (p : Int) + df = (n' : Int)) : vm_br p (.tableswitch df 0 (H : Int) os) a n (.int x :: st) st n' := by
  refine Or.inr (Or.inr (Or.inr (Or.inr (Or.inr ⟨df, 0, (H : Int), os, x, rfl, rfl, Or.inl ⟨?_, hn⟩⟩))))
  rw [Int32.le_iff_toInt_le, Int32.le_iff_toInt_le, nI_toInt hH] at hx
  have e0 : (0 : Int32).toInt = 0 := by decide
  omega
section API4
variable {E : vm_V} {μ : vm_M} {x : Nat} {z : vZ}
theorem vab5_le (T : vt_T) (p g x i : Nat) (hx : x ≤ 10) (hi : i ≤ 32) : vab5 T p g x i ≤ 100000 := by
  have h1 := vch_all x (by omega)
  have h2 : vab5 T p g x i ≤ fb_sm (fun m => vch m x 5) i := v_sm_le i fun k hk => by
    show (if _ then _ else _) ≤ _
    split
    · exact Nat.le_refl _
    · exact Nat.zero_le _
  have h3 := v_sm_mono (fun m => vch m x 5) hi
  omega
theorem c_G_likely (h : vXS μ x z) (p g y w : Int32) : vm_Ex E 5 n_G_likely [.ref x, .int p, .int g, .int y, .int w] 0 0 μ (vPG μ x (o_likely z p g y w)) := by
  have hG := h.t.ok.G5
  have hP := h.t.ok.P6
  refine vm_start (D := 4) (by decide) rfl (Nat.le_of_ble_eq_true rfl) (k := k_G_likely) rfl (L := [.ref x, .int p, .int g, .int y, .int w, .retAddr 0, .retAddr 0, .retAddr 0, .retAddr 0]) rfl ?_
  refine vm_r_aload_n rfl rfl rfl ?_
  refine vm_r_getR rfl (h.r1) ?_
  refine vm_r_iload_n rfl rfl rfl ?_
  refine vm_r_cv2I rfl (by decide) (h.t.s.ob) (Nat.le_of_ble_eq_true rfl) (vm_Ex_le (by first | exact Nat.le_of_ble_eq_true rfl | omega) (c_TN_isPerson h.t p)) ?_
  first | refine vm_r_if_eqB rfl (fun hp => ?_) (fun hp => ?_) | refine vm_r_if_eqN rfl (by omega) (fun hp => ?_) (fun hp => ?_) | refine vm_r_if_eq rfl (fun hp => ?_) (fun hp => ?_)
  · refine vm_r_iconst rfl ?_
    refine vm_r_ret rfl (fun h => by cases h) (vPG.pure h (by rw [if_neg (fun q => hp q.1)]))
  · refine vm_r_aload_n rfl rfl rfl ?_
    refine vm_r_getR rfl (h.r1) ?_
    refine vm_r_iload_n rfl rfl rfl ?_
    refine vm_r_cv2I rfl (by decide) (h.t.s.ob) (Nat.le_of_ble_eq_true rfl) (vm_Ex_le (by first | exact Nat.le_of_ble_eq_true rfl | omega) (c_TN_isGate h.t g)) ?_
    first | refine vm_r_if_eqB rfl (fun hg => ?_) (fun hg => ?_) | refine vm_r_if_eqN rfl (by omega) (fun hg => ?_) (fun hg => ?_) | refine vm_r_if_eq rfl (fun hg => ?_) (fun hg => ?_)
    · refine vm_r_iconst rfl ?_
      refine vm_r_ret rfl (fun h => by cases h) (vPG.pure h (by rw [if_neg (fun q => hg q.2.1)]))
    · refine vm_r_iload_n rfl rfl rfl ?_
      refine vm_r_iconst (kI := nI 0) rfl ?_
      refine vm_r_bipush (kI := nI 10) rfl ?_
      refine vm_r_cs3I rfl (by decide) (Nat.le_of_ble_eq_true rfl) (vm_Ex_le (by first | exact Nat.le_of_ble_eq_true rfl | omega) (c_G_within _ _ _)) ?_
      first | refine vm_r_if_eqB rfl (fun hy => ?_) (fun hy => ?_) | refine vm_r_if_eqN rfl (by omega) (fun hy => ?_) (fun hy => ?_) | refine vm_r_if_eq rfl (fun hy => ?_) (fun hy => ?_)
      · refine vm_r_iconst rfl ?_
        refine vm_r_ret rfl (fun h => by cases h) (vPG.pure h (by rw [if_neg (fun q => hy q.2.2.1)]))
      · refine vm_r_iload rfl rfl ?_
        refine vm_r_iconst (kI := nI 0) rfl ?_
        refine vm_r_iconst (kI := nI 1) rfl ?_
        refine vm_r_cs3I rfl (by decide) (Nat.le_of_ble_eq_true rfl) (vm_Ex_le (by first | exact Nat.le_of_ble_eq_true rfl | omega) (c_G_within _ _ _)) ?_
        first | refine vm_r_if_neB rfl (fun hw => ?_) (fun hw => ?_) | refine vm_r_if_neN rfl (by omega) (fun hw => ?_) (fun hw => ?_) | refine vm_r_if_ne rfl (fun hw => ?_) (fun hw => ?_)
        · have hv : vix p (tP (zT z)) ∧ vix g (tG (zT z)) ∧ vrg y 10 ∧ vrg w 1 := ⟨hp, hg, hy, hw⟩
          obtain ⟨i, hi, rfl⟩ := vix_n (by omega) hp
          obtain ⟨j, hj, rfl⟩ := vix_n (by omega) hg
          obtain ⟨c, hc, rfl⟩ := vrg_n (by decide) hy
          obtain ⟨k, hk, rfl⟩ := vrg_n (by decide) hw
          refine vm_r_iconst (kI := nI 0) rfl ?_
          refine vm_r_istore5 rfl rfl ?_
          refine vm_r_iconst (kI := nI 0) rfl ?_
          refine vm_r_istore6 rfl rfl ?_
          refine vm_r_iconst (kI := nI 0) rfl ?_
          refine vm_r_istore7 rfl rfl ?_
          refine vm_up (P := fun n => ∀ v : Value, vm_W E (vm_Ex E 4) k_G_likely _ (53, [.ref x, .int (nI i), .int (nI j), .int (nI c), .int (nI k), .int (nI (vab5 (zT z) i j c n)), .int (nI (fb_sm (fun m => vch m c 5) n)), .int (nI n), v], [], 0, 0, μ)) (N := 32) ?_ ?_ 0 (by omega) (.retAddr 0)
          · intro v
            have ha := vab5_le (zT z) i j c 32 hc (Nat.le_refl _)
            have e1 : veu 64 (vab5 (zT z) i j c 32) 100000 = Nat.gcd (vab5 (zT z) i j c 32) 100000 := veu_gcd 17 64 _ _ (by decide) (by decide)
            have hgp : 0 < Nat.gcd (vab5 (zT z) i j c 32) 100000 := Nat.gcd_pos_of_pos_right _ (by decide)
            have hgl : Nat.gcd (vab5 (zT z) i j c 32) 100000 ≤ 100000 := Nat.le_of_dvd (by decide) (Nat.gcd_dvd_right _ _)
            have eo : (o_likely z (nI i) (nI j) (nI c) (nI k)) = (nI ((if k = 0 then vab5 (zT z) i j c 32 else 100000) / Nat.gcd (vab5 (zT z) i j c 32) 100000), z) := by
              unfold o_likely
              rw [if_pos hv, nn_nI (by omega), nn_nI (by omega), nn_nI (by omega), nn_nI (by omega)]
            rw [eo]
            clear eo
            generalize vab5 (zT z) i j c 32 = A at *
            generalize Nat.gcd A 100000 = D at *
            refine vm_r_iload rfl rfl ?_
            refine vm_r_bipush (kI := nI 32) rfl ?_
            first | refine vm_r_icmp_geN rfl (by omega) (by omega) (fun _ => ?_) (fun hn => absurd hn (by omega)) | refine vm_r_icmp_ge rfl (fun _ => ?_) (fun hn => absurd hn (by omega))
            rw [vch_all c (by omega)]
            refine vm_r_iload rfl rfl ?_
            refine vm_r_iload rfl rfl ?_
            refine vm_r_cs2I rfl (by decide) (Nat.le_of_ble_eq_true rfl) (vm_Ex_le (by first | exact Nat.le_of_ble_eq_true rfl | omega) (c_G_commonDivisor (by omega) (by omega))) ?_
            refine vm_r_istore7 rfl rfl ?_
            rw [e1]
            refine vm_r_iload rfl rfl ?_
            refine vm_r_iconst (kI := nI 1) rfl ?_
            first | refine vm_r_icmp_geN rfl (by omega) (by omega) (fun e => ?_) (fun e => ?_) | refine vm_r_icmp_ge rfl (fun e => ?_) (fun e => ?_)
            · refine vm_r_iload rfl rfl ?_
              first | refine vm_r_if_neB rfl (fun f => ?_) (fun f => ?_) | refine vm_r_if_neN rfl (by omega) (fun f => ?_) (fun f => ?_) | refine vm_r_if_ne rfl (fun f => ?_) (fun f => ?_)
              · refine vm_r_iload rfl rfl ?_
                refine vm_r_iload rfl rfl ?_
                refine vm_r_idivN rfl (by omega) (by omega) (by omega) ?_
                refine vm_r_ret rfl (fun h => by cases h) (vPG.pure h (by rw [if_neg (by omega)]))
              · refine vm_r_iload rfl rfl ?_
                refine vm_r_iload rfl rfl ?_
                refine vm_r_idivN rfl (by omega) (by omega) (by omega) ?_
                refine vm_r_goto rfl ?_
                refine vm_r_ret rfl (fun h => by cases h) (vPG.pure h (by rw [if_pos (by omega)]))
            · obtain rfl : D = 1 := by omega
              refine vm_r_iload rfl rfl ?_
              first | refine vm_r_if_neB rfl (fun f => ?_) (fun f => ?_) | refine vm_r_if_neN rfl (by omega) (fun f => ?_) (fun f => ?_) | refine vm_r_if_ne rfl (fun f => ?_) (fun f => ?_)
              · refine vm_r_iload rfl rfl ?_
                refine vm_r_ret rfl (fun h => by cases h) (vPG.pure h (by rw [if_neg (by omega), Nat.div_one]))
              · refine vm_r_iload rfl rfl ?_
                refine vm_r_goto rfl ?_
                refine vm_r_ret rfl (fun h => by cases h) (vPG.pure h (by rw [if_pos (by omega), Nat.div_one]))
          · intro n hn ih v
            have hl := v_le_sm (f := fun m => vch m c 5) hn
            have hc5 := vch_all c (by omega)
            have hB := h.t.ok.B hi
            have e1 : vab5 (zT z) i j c (n + 1) = vab5 (zT z) i j c n + if vadm (zT z) (vms (tB (zT z) i) n 5) j then vch n c 5 else 0 := rfl
            have e2 : fb_sm (fun m => vch m c 5) (n + 1) = fb_sm (fun m => vch m c 5) n + vch n c 5 := rfl
            rw [e1, e2] at ih
            refine vm_r_iload rfl rfl ?_
            refine vm_r_bipush (kI := nI 32) rfl ?_
            first | refine vm_r_icmp_geN rfl (by omega) (by omega) (fun hn => absurd hn (by omega)) (fun _ => ?_) | refine vm_r_icmp_ge rfl (fun hn => absurd hn (by omega)) (fun _ => ?_)
            refine vm_r_iload rfl rfl ?_
            refine vm_r_iload_n rfl rfl rfl ?_
            refine vm_r_cs2I rfl (by decide) (Nat.le_of_ble_eq_true rfl) (vm_Ex_le (by first | exact Nat.le_of_ble_eq_true rfl | omega) (c_G_chance hn hc)) ?_
            refine vm_r_istore8 rfl rfl ?_
            refine vm_r_iload rfl rfl ?_
            refine vm_r_iload rfl rfl ?_
            first | refine vm_r_iaddN rfl ?_ | refine vm_r_iadd rfl ?_
            refine vm_r_istore6 rfl rfl ?_
            refine vm_r_aload_n rfl rfl rfl ?_
            refine vm_r_getR rfl (h.r1) ?_
            refine vm_r_aload_n rfl rfl rfl ?_
            refine vm_r_getR rfl (h.r1) ?_
            refine vm_r_getR rfl (h.t.s.rB) ?_
            refine vm_r_iload_n rfl rfl rfl ?_
            refine vm_r_iaload rfl (h.t.s.sB) (by omega) (by omega) (h.t.vB hi) ?_
            refine vm_r_iload rfl rfl ?_
            refine vm_r_cs2I rfl (by decide) (Nat.le_of_ble_eq_true rfl) (vm_Ex_le (by first | exact Nat.le_of_ble_eq_true rfl | omega) (c_SY_misheard hB hn)) ?_
            refine vm_r_iload_n rfl rfl rfl ?_
            refine vm_r_cv3I rfl (by decide) (h.t.s.ob) (Nat.le_of_ble_eq_true rfl) (vm_Ex_le (by first | exact Nat.le_of_ble_eq_true rfl | omega) (c_TN_admits h.t (vms_ok hB 5 (Nat.le_refl 5)) hj)) ?_
            first | refine vm_r_if_eqB rfl (fun e => ?_) (fun e => ?_) | refine vm_r_if_eqN rfl (by omega) (fun e => ?_) (fun e => ?_) | refine vm_r_if_eq rfl (fun e => ?_) (fun e => ?_)
            · rw [if_neg e] at ih
              first | refine vm_r_iinc7N (y := 1) rfl rfl ?_ | refine vm_r_iinc7 rfl rfl ?_
              refine vm_r_goto rfl ?_
              exact ih _
            · rw [if_pos e] at ih
              refine vm_r_iload rfl rfl ?_
              refine vm_r_iload rfl rfl ?_
              first | refine vm_r_iaddN rfl ?_ | refine vm_r_iadd rfl ?_
              refine vm_r_istore5 rfl rfl ?_
              first | refine vm_r_iinc7N (y := 1) rfl rfl ?_ | refine vm_r_iinc7 rfl rfl ?_
              refine vm_r_goto rfl ?_
              exact ih _
        · refine vm_r_iconst rfl ?_
          refine vm_r_ret rfl (fun h => by cases h) (vPG.pure h (by rw [if_neg (fun q => hw q.2.2.2)]))
theorem vlive_1 (T : vt_T) (w : Nat) : (vlive T w).1 = T.1 ∧ tK (vlive T w) = tK T ∧ tE (vlive T w) = tE T := by
  unfold vlive
  split
  · exact vvis_1 _ _ _
  · exact ⟨rfl, rfl, rfl⟩
theorem vyr_1 (T : vt_T) (s : Nat) : ∀ n, (vyr T s n).1 = T.1 ∧ tK (vyr T s n) = tK T ∧ tE (vyr T s n) = tE T
  | 0 => ⟨rfl, rfl, rfl⟩
  | n + 1 => by
    have h1 := vyr_1 T s n
    have h2 := vlive_1 (vyr T s n) (vdr s n)
    exact ⟨h2.1.trans h1.1, h2.2.1.trans h1.2.1, h2.2.2.trans h1.2.2⟩
theorem c_G_year (h : vXS μ x z) (hi : v_inv z) (s n w : Int32) : vm_Ex E 7 n_G_year [.ref x, .int s, .int n, .int w] 0 0 μ (vPG μ x (o_year z s n w)) := by
  have hG := h.t.ok.G5
  have hP := h.t.ok.P6
  refine vm_start (D := 6) (by decide) rfl (Nat.le_of_ble_eq_true rfl) (k := k_G_year) rfl (L := [.ref x, .int s, .int n, .int w, .retAddr 0]) rfl ?_
  refine vm_r_iload_n rfl rfl rfl ?_
  refine vm_r_iconst (kI := nI 0) rfl ?_
  refine vm_r_sipush (kI := nI 9999) rfl ?_
  refine vm_r_cs3I rfl (by decide) (Nat.le_of_ble_eq_true rfl) (vm_Ex_le (by first | exact Nat.le_of_ble_eq_true rfl | omega) (c_G_within _ _ _)) ?_
  first | refine vm_r_if_eqB rfl (fun hs => ?_) (fun hs => ?_) | refine vm_r_if_eqN rfl (by omega) (fun hs => ?_) (fun hs => ?_) | refine vm_r_if_eq rfl (fun hs => ?_) (fun hs => ?_)
  · refine vm_r_iconst rfl ?_
    refine vm_r_ret rfl (fun h => by cases h) (vPG.pure h (by rw [if_neg (fun q => hs q.1)]))
  · refine vm_r_iload_n rfl rfl rfl ?_
    refine vm_r_iconst (kI := nI 1) rfl ?_
    refine vm_r_bipush (kI := nI 60) rfl ?_
    refine vm_r_cs3I rfl (by decide) (Nat.le_of_ble_eq_true rfl) (vm_Ex_le (by first | exact Nat.le_of_ble_eq_true rfl | omega) (c_G_within _ _ _)) ?_
    first | refine vm_r_if_eqB rfl (fun hn => ?_) (fun hn => ?_) | refine vm_r_if_eqN rfl (by omega) (fun hn => ?_) (fun hn => ?_) | refine vm_r_if_eq rfl (fun hn => ?_) (fun hn => ?_)
    · refine vm_r_iconst rfl ?_
      refine vm_r_ret rfl (fun h => by cases h) (vPG.pure h (by rw [if_neg (fun q => hn q.2.1)]))
    · refine vm_r_iload_n rfl rfl rfl ?_
      refine vm_r_iconst (kI := nI 0) rfl ?_
      refine vm_r_iconst (kI := nI 2) rfl ?_
      refine vm_r_cs3I rfl (by decide) (Nat.le_of_ble_eq_true rfl) (vm_Ex_le (by first | exact Nat.le_of_ble_eq_true rfl | omega) (c_G_within _ _ _)) ?_
      first | refine vm_r_if_neB rfl (fun hw => ?_) (fun hw => ?_) | refine vm_r_if_neN rfl (by omega) (fun hw => ?_) (fun hw => ?_) | refine vm_r_if_ne rfl (fun hw => ?_) (fun hw => ?_)
      · have hv : vrg s 9999 ∧ (1 ≤ n ∧ n ≤ 60) ∧ vrg w 2 := ⟨hs, hn, hw⟩
        obtain ⟨a, ha, rfl⟩ := vrg_n (by decide) hs
        obtain ⟨b, hb, rfl⟩ : ∃ b, b ≤ 60 ∧ n = nI b := by
          have h0 : ¬ n < 0 := Int32.not_lt.mpr (Int32.le_trans (show (0 : Int32) ≤ 1 by decide) hn.1)
          obtain ⟨b, h1, rfl⟩ := nI_of h0
          exact ⟨b, (nI_leI h1 (by decide)).mp hn.2, rfl⟩
        obtain ⟨c, hc, rfl⟩ := vrg_n (by decide) hw
        have eo : o_year z (nI a) (nI b) (nI c) = ((if c = 0 then tI (vyr (zT z) a b) - tI (zT z) else if c = 1 then tO (vyr (zT z) a b) - tO (zT z) else nI (vst (vyr (zT z) a b) (tP (zT z)))), z) := by
          unfold o_year
          rw [if_pos hv, nn_nI (by omega), nn_nI (by omega), nn_nI (by omega)]
        rw [eo]
        clear eo
        refine vm_r_aload_n rfl rfl rfl ?_
        refine vm_r_getR rfl (h.r2) ?_
        refine vm_r_aload_n rfl rfl rfl ?_
        refine vm_r_getR rfl (h.r1) ?_
        refine vm_r_cv2V rfl (by decide) (vs_T.ob h.2.2.2.1) (Nat.le_of_ble_eq_true rfl) (vm_Ex_le (by first | exact Nat.le_of_ble_eq_true rfl | omega) (c_TN_copyFrom h.2.2.2.1 h.t (by omega))) (fun μ1 q1 => ?_)
        refine vm_r_iconst (kI := nI 0) rfl ?_
        refine vm_r_istore4 rfl rfl ?_
        obtain ⟨f1, t1⟩ := q1
        refine vm_up (P := fun j => ∀ (μ' : vm_M), vXS μ' x z → vx μ μ' x (x + 95) → vt_C μ' (x + 9) (vyr (zT z) a j) → vm_W E (vm_Ex E 6) k_G_year (vPG μ x ((if c = 0 then tI (vyr (zT z) a b) - tI (zT z) else if c = 1 then tO (vyr (zT z) a b) - tO (zT z) else nI (vst (vyr (zT z) a b) (tP (zT z)))), z)) (46, [.ref x, .int (nI a), .int (nI b), .int (nI c), .int (nI j)], [], 0, 0, μ')) (N := b) ?_ ?_ 0 (by omega) μ1 (h.trl (f1.x.wd (by omega) (by omega))) (f1.x.wd (by omega) (by omega)) t1
        · intro μ' h' x' t'
          have eP : tP (vyr (zT z) a b) = tP (zT z) := congrArg Prod.snd (vyr_1 (zT z) a b).1
          refine vm_r_iload rfl rfl ?_
          refine vm_r_iload_n rfl rfl rfl ?_
          first | refine vm_r_icmp_geN rfl (by omega) (by omega) (fun _ => ?_) (fun hn => absurd hn (by omega)) | refine vm_r_icmp_ge rfl (fun _ => ?_) (fun hn => absurd hn (by omega))
          refine vm_r_iload_n rfl rfl rfl ?_
          first | refine vm_r_if_neB rfl (fun e => ?_) (fun e => ?_) | refine vm_r_if_neN rfl (by omega) (fun e => ?_) (fun e => ?_) | refine vm_r_if_ne rfl (fun e => ?_) (fun e => ?_)
          · refine vm_r_iload_n rfl rfl rfl ?_
            refine vm_r_iconst (kI := nI 1) rfl ?_
            first | refine vm_r_icmp_neN rfl (by omega) (by omega) (fun f => ?_) (fun f => ?_) | refine vm_r_icmp_ne rfl (fun f => ?_) (fun f => ?_)
            · rw [if_neg (by omega), if_neg (by omega)]
              refine vm_r_aload_n rfl rfl rfl ?_
              refine vm_r_getR rfl (h'.r2) ?_
              refine vm_r_cv1I rfl (by decide) (t'.s.ob) (Nat.le_of_ble_eq_true rfl) (vm_Ex_le (by first | exact Nat.le_of_ble_eq_true rfl | omega) (c_TN_settled t')) ?_
              refine vm_r_ret rfl (fun h => by cases h) (⟨_, rfl, by rw [eP], x', h'⟩)
            · rw [if_neg (by omega), if_pos (by omega)]
              refine vm_r_aload_n rfl rfl rfl ?_
              refine vm_r_getR rfl (h'.r2) ?_
              refine vm_r_getI rfl (t'.gO) ?_
              refine vm_r_aload_n rfl rfl rfl ?_
              refine vm_r_getR rfl (h'.r1) ?_
              refine vm_r_getI rfl (h'.t.gO) ?_
              refine vm_r_isub rfl ?_
              refine vm_r_goto rfl ?_
              refine vm_r_ret rfl (fun h => by cases h) (⟨_, rfl, rfl, x', h'⟩)
          · rw [if_pos (by omega)]
            refine vm_r_aload_n rfl rfl rfl ?_
            refine vm_r_getR rfl (h'.r2) ?_
            refine vm_r_getI rfl (t'.gI) ?_
            refine vm_r_aload_n rfl rfl rfl ?_
            refine vm_r_getR rfl (h'.r1) ?_
            refine vm_r_getI rfl (h'.t.gI) ?_
            refine vm_r_isub rfl ?_
            refine vm_r_ret rfl (fun h => by cases h) (⟨_, rfl, rfl, x', h'⟩)
        · intro j hj ih μ' h' x' t'
          have eG : tG (vyr (zT z) a j) = tG (zT z) := congrArg Prod.fst (vyr_1 (zT z) a j).1
          have eP : tP (vyr (zT z) a j) = tP (zT z) := congrArg Prod.snd (vyr_1 (zT z) a j).1
          have i1 := hi.1
          refine vm_r_iload rfl rfl ?_
          refine vm_r_iload_n rfl rfl rfl ?_
          first | refine vm_r_icmp_geN rfl (by omega) (by omega) (fun hn => absurd hn (by omega)) (fun _ => ?_) | refine vm_r_icmp_ge rfl (fun hn => absurd hn (by omega)) (fun _ => ?_)
          refine vm_r_aload_n rfl rfl rfl ?_
          refine vm_r_getR rfl (h'.r2) ?_
          refine vm_r_iload_n rfl rfl rfl ?_
          refine vm_r_iload rfl rfl ?_
          refine vm_r_cs2I rfl (by decide) (Nat.le_of_ble_eq_true rfl) (vm_Ex_le (by first | exact Nat.le_of_ble_eq_true rfl | omega) (c_G_draw (by omega) (by omega))) ?_
          refine vm_r_cs2V rfl (by decide) (Nat.le_of_ble_eq_true rfl) (vm_Ex_le (by first | exact Nat.le_of_ble_eq_true rfl | omega) (c_G_liveOnce t' (by omega) (by omega) (Nat.lt_trans (vdr_lt a j) (by decide)))) (fun μ2 q2 => ?_)
          obtain ⟨f2, t2⟩ := q2
          first | refine vm_r_iinc4N (y := 1) rfl rfl ?_ | refine vm_r_iinc4 rfl rfl ?_
          refine vm_r_goto rfl ?_
          exact ih μ2 (h'.trl (f2.x.wd (by omega) (by omega))) (x'.tr (f2.x.wd (by omega) (by omega))) t2
      · refine vm_r_iconst rfl ?_
        refine vm_r_ret rfl (fun h => by cases h) (vPG.pure h (by rw [if_neg (fun q => hw q.2.2)]))
theorem c_G_count (h : vXS μ x z) (w : Int32) : vm_Ex E 2 n_G_count [.ref x, .int w] 0 0 μ (vPG μ x (o_count z w)) := by
  obtain ⟨a, hs⟩ := h.2.1
  obtain ⟨fp, hp⟩ := h.2.2.2.2.1
  obtain ⟨fk, hk⟩ := h.2.2.2.2.2.1
  refine vm_start (D := 1) (by decide) rfl (Nat.le_of_ble_eq_true rfl) (k := k_G_count) rfl (L := [.ref x, .int w]) rfl ?_
  by_cases hw : 0 ≤ w ∧ w ≤ nI 9
  · obtain ⟨j, hj, rfl⟩ := vrg_n (by decide) hw
    match j, hj with
    | 0, _ =>
      refine vm_r_iload_n rfl rfl rfl ?_
      refine vm_r_br rfl (n' := 56) (vm_tsN (j := 0) (by decide) (by decide) rfl rfl) ?_
      refine vm_r_aload_n rfl rfl rfl ?_
      refine vm_r_getR rfl (h.r1) ?_
      refine vm_r_getI rfl (h.t.gG) ?_
      refine vm_r_ret rfl (fun h => by cases h) (vPG.pure h (by rw [if_pos (by decide)]))
    | 1, _ =>
      refine vm_r_iload_n rfl rfl rfl ?_
      refine vm_r_br rfl (n' := 64) (vm_tsN (j := 1) (by decide) (by decide) rfl rfl) ?_
      refine vm_r_aload_n rfl rfl rfl ?_
      refine vm_r_getR rfl (h.r1) ?_
      refine vm_r_getI rfl (h.t.gP) ?_
      refine vm_r_ret rfl (fun h => by cases h) (vPG.pure h (by rw [if_neg (by decide), if_pos (by decide)]))
    | 2, _ =>
      refine vm_r_iload_n rfl rfl rfl ?_
      refine vm_r_br rfl (n' := 72) (vm_tsN (j := 2) (by decide) (by decide) rfl rfl) ?_
      refine vm_r_aload_n rfl rfl rfl ?_
      refine vm_r_getR rfl (h.r1) ?_
      refine vm_r_getI rfl (h.t.gI) ?_
      refine vm_r_ret rfl (fun h => by cases h) (vPG.pure h (by rw [if_neg (by decide), if_neg (by decide), if_pos (by decide)]))
    | 3, _ =>
      refine vm_r_iload_n rfl rfl rfl ?_
      refine vm_r_br rfl (n' := 80) (vm_tsN (j := 3) (by decide) (by decide) rfl rfl) ?_
      refine vm_r_aload_n rfl rfl rfl ?_
      refine vm_r_getR rfl (h.r1) ?_
      refine vm_r_getI rfl (h.t.gO) ?_
      refine vm_r_ret rfl (fun h => by cases h) (vPG.pure h (by rw [if_neg (by decide), if_neg (by decide), if_neg (by decide), if_pos (by decide)]))
    | 4, _ =>
      refine vm_r_iload_n rfl rfl rfl ?_
      refine vm_r_br rfl (n' := 88) (vm_tsN (j := 4) (by decide) (by decide) rfl rfl) ?_
      refine vm_r_aload_n rfl rfl rfl ?_
      refine vm_r_getR rfl (h.r1) ?_
      refine vm_r_cv1I rfl (by decide) (h.t.s.ob) (Nat.le_of_ble_eq_true rfl) (vm_Ex_le (by first | exact Nat.le_of_ble_eq_true rfl | omega) (c_TN_settled h.t)) ?_
      refine vm_r_ret rfl (fun h => by cases h) (vPG.pure h (by rw [if_neg (by decide), if_neg (by decide), if_neg (by decide), if_neg (by decide), if_pos (by decide)]))
    | 5, _ =>
      refine vm_r_iload_n rfl rfl rfl ?_
      refine vm_r_br rfl (n' := 96) (vm_tsN (j := 5) (by decide) (by decide) rfl rfl) ?_
      refine vm_r_aload_n rfl rfl rfl ?_
      refine vm_r_getR rfl (h.r5) ?_
      refine vm_r_getI rfl (h.w.gN) ?_
      refine vm_r_ret rfl (fun h => by cases h) (vPG.pure h (by rw [if_neg (by decide), if_neg (by decide), if_neg (by decide), if_neg (by decide), if_neg (by decide), if_pos (by decide)]))
    | 6, _ =>
      refine vm_r_iload_n rfl rfl rfl ?_
      refine vm_r_br rfl (n' := 104) (vm_tsN (j := 6) (by decide) (by decide) rfl rfl) ?_
      refine vm_r_aload_n rfl rfl rfl ?_
      refine vm_r_getR rfl (h.r5) ?_
      refine vm_r_getI rfl (h.w.gM) ?_
      refine vm_r_ret rfl (fun h => by cases h) (vPG.pure h (by rw [if_neg (by decide), if_neg (by decide), if_neg (by decide), if_neg (by decide), if_neg (by decide), if_neg (by decide), if_pos (by decide)]))
    | 7, _ =>
      refine vm_r_iload_n rfl rfl rfl ?_
      refine vm_r_br rfl (n' := 112) (vm_tsN (j := 7) (by decide) (by decide) rfl rfl) ?_
      refine vm_r_aload_n rfl rfl rfl ?_
      refine vm_r_getR rfl (h.r3) ?_
      refine vm_r_getI rfl (hp.gH) ?_
      refine vm_r_ret rfl (fun h => by cases h) (vPG.pure h (by rw [if_neg (by decide), if_neg (by decide), if_neg (by decide), if_neg (by decide), if_neg (by decide), if_neg (by decide), if_neg (by decide), if_pos (by decide)]))
    | 8, _ =>
      refine vm_r_iload_n rfl rfl rfl ?_
      refine vm_r_br rfl (n' := 120) (vm_tsN (j := 8) (by decide) (by decide) rfl rfl) ?_
      refine vm_r_aload_n rfl rfl rfl ?_
      refine vm_r_getR rfl (h.r4) ?_
      refine vm_r_getI rfl (hk.gH) ?_
      refine vm_r_ret rfl (fun h => by cases h) (vPG.pure h (by rw [if_neg (by decide), if_neg (by decide), if_neg (by decide), if_neg (by decide), if_neg (by decide), if_neg (by decide), if_neg (by decide), if_neg (by decide), if_pos (by decide)]))
    | 9, _ =>
      refine vm_r_iload_n rfl rfl rfl ?_
      refine vm_r_br rfl (n' := 128) (vm_tsN (j := 9) (by decide) (by decide) rfl rfl) ?_
      refine vm_r_aload_n rfl rfl rfl ?_
      refine vm_r_getR rfl (h.r0) ?_
      refine vm_r_getI rfl (hs.gN) ?_
      refine vm_r_ret rfl (fun h => by cases h) (vPG.pure h (by rw [if_neg (by decide), if_neg (by decide), if_neg (by decide), if_neg (by decide), if_neg (by decide), if_neg (by decide), if_neg (by decide), if_neg (by decide), if_neg (by decide), if_pos (by decide)]))
    | n + 10, hj => exact absurd hj (by omega)
  · refine vm_r_iload_n rfl rfl rfl ?_
    refine vm_r_br rfl (n' := 136) (vm_tsD (H := 9) hw (by decide) rfl) ?_
    refine vm_r_iconst rfl ?_
    refine vm_r_ret rfl (fun h => by cases h) (vPG.pure h (by rw [if_neg (fun q => hw (by rw [q]; decide)), if_neg (fun q => hw (by rw [q]; decide)), if_neg (fun q => hw (by rw [q]; decide)), if_neg (fun q => hw (by rw [q]; decide)), if_neg (fun q => hw (by rw [q]; decide)), if_neg (fun q => hw (by rw [q]; decide)), if_neg (fun q => hw (by rw [q]; decide)), if_neg (fun q => hw (by rw [q]; decide)), if_neg (fun q => hw (by rw [q]; decide)), if_neg (fun q => hw (by rw [q]; decide))]))
end API4
