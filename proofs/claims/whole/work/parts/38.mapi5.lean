/-! The model: which sounds tell gates apart; chance; years. -/
section MAPI5
variable {E : vm_V} {μ μ' : vm_M} {m : Nat} {z : vZ} {T : vt_T}
def vpl (T : vt_T) (n g h : Nat) : Nat → Bool
  | 0 => false
  | k + 1 => vpl T n g h k || (decide (n / 2 ^ k % 2 = 1) && !decide (vd (tA T g) k = vd (tA T h) k))
theorem vpl_iff (T : vt_T) (n g h : Nat) : ∀ j, vpl T n g h j = true ↔ ∃ k, k < j ∧ n / 2 ^ k % 2 = 1 ∧ ¬ vd (tA T g) k = vd (tA T h) k
  | 0 => ⟨fun q => (by cases q), fun ⟨k, hk, _⟩ => absurd hk (Nat.not_lt_zero k)⟩
  | j + 1 => by
    have ih := vpl_iff T n g h j
    have e : vpl T n g h (j + 1) = (vpl T n g h j || (decide (n / 2 ^ j % 2 = 1) && !decide (vd (tA T g) j = vd (tA T h) j))) := rfl
    rw [e, Bool.or_eq_true, ih]
    constructor
    · rintro (⟨k, h1, h2⟩ | q)
      · exact ⟨k, by omega, h2⟩
      · simp at q
        exact ⟨j, Nat.lt_succ_self j, q⟩
    · rintro ⟨k, h1, h2, h3⟩
      by_cases y : k = j
      · subst y
        exact Or.inr (by simp [h2, h3])
      · exact Or.inl ⟨k, by omega, h2, h3⟩
theorem c_M_parts {n g q : Nat} (h : vM μ m z) (k : vOk z) (hn : n < 32) (hg : g < tG (zT z)) (hq : q < tG (zT z)) : vm_Ex E 2 n_M_parts [.ref m, .int (nI n), .int (nI g), .int (nI q)] 0 0 μ (vm_PI (vm_bi (vpl (zT z) n g q 5 = true)) μ) := by
  have hG := k.1.1
  have c := h.2.2.2.1
  refine vm_start (D := 1) (by decide) rfl (Nat.le_of_ble_eq_true rfl) (k := k_M_parts) rfl (L := [.ref m, .int (nI n), .int (nI g), .int (nI q), .retAddr 0, .retAddr 0]) rfl ?_
  refine vm_r_iconst (kI := nI 0) rfl ?_
  refine vm_r_istore4 rfl rfl ?_
  refine vm_r_iconst (kI := nI 0) rfl ?_
  refine vm_r_istore5 rfl rfl ?_
  refine vm_up (P := fun i => vm_W E (vm_Ex E 1) k_M_parts _ (6, [.ref m, .int (nI n), .int (nI g), .int (nI q), .int (vm_bi (vpl (zT z) n g q i = true)), .int (nI i)], [], 0, 0, μ)) (N := 5) ?_ ?_ 0 (by omega)
  · refine vm_r_iload rfl rfl ?_
    refine vm_r_iconst (kI := nI 5) rfl ?_
    first | refine vm_r_icmp_geN rfl (by omega) (by omega) (fun _ => ?_) (fun hn => absurd hn (by omega)) | refine vm_r_icmp_ge rfl (fun _ => ?_) (fun hn => absurd hn (by omega))
    refine vm_r_iload rfl rfl ?_
    refine vm_r_ret rfl (fun _ => by first | exact vm_bi_01 _ | decide) (vm_PI.of rfl)
  · intro i hi ih
    have d1 := vd_lt (tA (zT z) g) i
    have d2 := vd_lt (tA (zT z) q) i
    have hs : vpl (zT z) n g q (i + 1) = (vpl (zT z) n g q i || (decide (n / 2 ^ i % 2 = 1) && !decide (vd (tA (zT z) g) i = vd (tA (zT z) q) i))) := rfl
    have fin : ∀ (P : Prop) [Decidable P], (P ↔ (vpl (zT z) n g q i = true ∨ (n / 2 ^ i % 2 = 1 ∧ ¬ vd (tA (zT z) g) i = vd (tA (zT z) q) i))) → vm_W E (vm_Ex E 1) k_M_parts (vm_PI (vm_bi (vpl (zT z) n g q 5 = true)) μ) (56, [.ref m, .int (nI n), .int (nI g), .int (nI q), .int (vm_bi (vpl (zT z) n g q i = true)), .int (nI i)], [.int (vm_bi P)], 0, 0, μ) := by
      intro P _ hPi
      have e1 : vm_bi P = vm_bi (vpl (zT z) n g q (i + 1) = true) := vm_bi_c (hPi.trans (by rw [hs]; simp))
      rw [e1]
      refine vm_r_istore4 rfl rfl ?_
      first | refine vm_r_iinc5N (y := 1) rfl rfl ?_ | refine vm_r_iinc5 rfl rfl ?_
      refine vm_r_goto rfl ?_
      exact ih
    refine vm_r_iload rfl rfl ?_
    refine vm_r_iconst (kI := nI 5) rfl ?_
    first | refine vm_r_icmp_geN rfl (by omega) (by omega) (fun hn => absurd hn (by omega)) (fun _ => ?_) | refine vm_r_icmp_ge rfl (fun hn => absurd hn (by omega)) (fun _ => ?_)
    refine vm_r_iload rfl rfl ?_
    first | refine vm_r_if_neB rfl (fun a => ?_) (fun a => ?_) | refine vm_r_if_neN rfl (by omega) (fun a => ?_) (fun a => ?_) | refine vm_r_if_ne rfl (fun a => ?_) (fun a => ?_)
    · refine vm_r_iconst (kI := nI 1) rfl ?_
      refine vm_r_goto rfl ?_
      exact fin True ⟨fun _ => Or.inl a, fun _ => trivial⟩
    · refine vm_r_iload_n rfl rfl rfl ?_
      refine vm_r_iload rfl rfl ?_
      refine vm_r_cs2I rfl (by decide) (Nat.le_of_ble_eq_true rfl) (vm_Ex_le (by first | exact Nat.le_of_ble_eq_true rfl | omega) (c_M_has (by omega) (by omega))) ?_
      first | refine vm_r_if_eqB rfl (fun b => ?_) (fun b => ?_) | refine vm_r_if_eqN rfl (by omega) (fun b => ?_) (fun b => ?_) | refine vm_r_if_eq rfl (fun b => ?_) (fun b => ?_)
      · refine vm_r_iconst (kI := nI 0) rfl ?_
        exact fin False ⟨False.elim, fun y => by rcases y with y | y; exact a y; exact b y.1⟩
      · refine vm_r_aload_n rfl rfl rfl ?_
        refine vm_r_getR rfl (h.1.r5) ?_
        refine vm_r_iconst (kI := nI 5) rfl ?_
        refine vm_r_iload_n rfl rfl rfl ?_
        first | refine vm_r_imulN rfl ?_ | refine vm_r_imul rfl ?_
        refine vm_r_iload rfl rfl ?_
        first | refine vm_r_iaddN rfl ?_ | refine vm_r_iadd rfl ?_
        refine vm_r_iaload rfl (h.1.s5) (by omega) (by omega) (c.1 g i hg hi) ?_
        refine vm_r_aload_n rfl rfl rfl ?_
        refine vm_r_getR rfl (h.1.r5) ?_
        refine vm_r_iconst (kI := nI 5) rfl ?_
        refine vm_r_iload_n rfl rfl rfl ?_
        first | refine vm_r_imulN rfl ?_ | refine vm_r_imul rfl ?_
        refine vm_r_iload rfl rfl ?_
        first | refine vm_r_iaddN rfl ?_ | refine vm_r_iadd rfl ?_
        refine vm_r_iaload rfl (h.1.s5) (by omega) (by omega) (c.1 q i hq hi) ?_
        first | refine vm_r_icmp_eqN rfl (by omega) (by omega) (fun o => ?_) (fun o => ?_) | refine vm_r_icmp_eq rfl (fun o => ?_) (fun o => ?_)
        · refine vm_r_iconst (kI := nI 0) rfl ?_
          exact fin False ⟨False.elim, fun y => by rcases y with y | y; exact a y; exact y.2 o⟩
        · refine vm_r_iconst (kI := nI 1) rfl ?_
          refine vm_r_goto rfl ?_
          exact fin True ⟨fun _ => Or.inr ⟨b, o⟩, fun _ => trivial⟩
theorem vap_v (T : vt_T) : ∀ n, (vap T n).1 = 32 ∧ (vap T n).2 = 6 ∨ (vap T n).1 < n ∧ (vap T n).2 = vbc (vap T n).1
  | 0 => Or.inl ⟨rfl, rfl⟩
  | n + 1 => by
    rw [vap_s]
    split
    · exact Or.inr ⟨Nat.lt_succ_self n, rfl⟩
    · rcases vap_v T n with q | q
      · exact Or.inl q
      · exact Or.inr ⟨Nat.lt_succ_of_lt q.1, q.2⟩
theorem c_M_apart (h : vM μ m z) (k : vOk z) (w : Int32) : vm_Ex E 3 n_M_apart [.ref m, .int w] 0 0 μ (vPM μ m (o_apart z w)) := by
  have hG := k.1.1
  refine vm_start (D := 2) (by decide) rfl (Nat.le_of_ble_eq_true rfl) (k := k_M_apart) rfl (L := [.ref m, .int w, .retAddr 0, .retAddr 0, .retAddr 0, .retAddr 0, .retAddr 0]) rfl ?_
  refine vm_r_iload_n rfl rfl rfl ?_
  refine vm_r_i2l rfl ?_
  refine vm_r_lconst (kL := lN 0) rfl ?_
  refine vm_r_lconst (kL := lN 1) rfl ?_
  refine vm_r_cs3I rfl (by decide) (Nat.le_of_ble_eq_true rfl) (vm_Ex_le (by first | exact Nat.le_of_ble_eq_true rfl | omega) (c_M_in (x := w) (lo := nI 0) (hi := nI 1) rfl (by decide) (by decide))) ?_
  first | refine vm_r_if_neB rfl (fun hw => ?_) (fun hw => ?_) | refine vm_r_if_neN rfl (by omega) (fun hw => ?_) (fun hw => ?_) | refine vm_r_if_ne rfl (fun hw => ?_) (fun hw => ?_)
  · obtain ⟨c, hc, rfl⟩ := vrg_n (by decide) hw
    refine vm_r_bipush rfl ?_
    refine vm_r_istore_n2 rfl rfl rfl ?_
    refine vm_r_iconst (kI := nI 0) rfl ?_
    refine vm_r_istore_n3 rfl rfl rfl ?_
    refine vm_up (P := fun j => ∀ u v y : Value, vm_W E (vm_Ex E 2) k_M_apart (vPM μ m (o_apart z (nI c))) (17, [.ref m, .int (nI c), .int (vo32 (vap (zT z) j).1), .int (nI j), u, v, y], [], 0, 0, μ)) (N := 32) ?_ ?_ 0 (by omega) (.retAddr 0) (.retAddr 0) (.retAddr 0)
    · intro u v y
      refine vm_r_iload_n rfl rfl rfl ?_
      refine vm_r_bipush (kI := nI 32) rfl ?_
      first | refine vm_r_icmp_geN rfl (by omega) (by omega) (fun _ => ?_) (fun hn => absurd hn (by omega)) | refine vm_r_icmp_ge rfl (fun _ => ?_) (fun hn => absurd hn (by omega))
      rcases vap_v (zT z) 32 with ⟨e1, e2⟩ | ⟨e1, e2⟩
      · have e3 : vo32 (vap (zT z) 32).1 = -4 := if_pos e1
        rw [e3]
        refine vm_r_iload_n rfl rfl rfl ?_
        refine vm_r_bipush rfl ?_
        refine vm_r_icmp_eq rfl (fun _ => ?_) (fun hn => absurd hn ((by decide)))
        refine vm_r_iload_n rfl rfl rfl ?_
        refine vm_r_goto rfl ?_
        refine vm_r_ret rfl (fun h => by cases h) (vPM.pure h (by rw [if_pos (show vrg _ _ from hw), if_pos e1]))
      · have e3 : vo32 (vap (zT z) 32).1 = nI (vap (zT z) 32).1 := if_neg (by omega)
        rw [e3]
        refine vm_r_iload_n rfl rfl rfl ?_
        refine vm_r_bipush rfl ?_
        refine vm_r_icmp_eq rfl (fun hn => absurd hn ((v_nI4 (by omega)))) (fun _ => ?_)
        refine vm_r_iload_n rfl rfl rfl ?_
        refine vm_r_iconst (kI := nI 1) rfl ?_
        first | refine vm_r_icmp_neN rfl (by omega) (by omega) (fun o => ?_) (fun o => ?_) | refine vm_r_icmp_ne rfl (fun o => ?_) (fun o => ?_)
        · refine vm_r_iload_n rfl rfl rfl ?_
          refine vm_r_cs1I rfl (by decide) (Nat.le_of_ble_eq_true rfl) (vm_Ex_le (by first | exact Nat.le_of_ble_eq_true rfl | omega) (c_M_ones e1)) ?_
          refine vm_r_ret rfl (fun h => by cases h) (vPM.pure h (by rw [if_pos (show vrg _ _ from hw), nn_nI (by omega), if_neg (by omega), if_neg (by omega), e2]))
        · refine vm_r_iload_n rfl rfl rfl ?_
          refine vm_r_goto rfl ?_
          refine vm_r_ret rfl (fun h => by cases h) (vPM.pure h (by rw [if_pos (show vrg _ _ from hw), nn_nI (by omega), if_neg (by omega), if_pos (by omega)]))
    · intro j hj ih u v y
      have hd := vdif_iff (T := zT z) (m := j)
      have inner : ∀ (P : Prop) [Decidable P], (P ↔ vbc j < (vap (zT z) j).2) → vm_W E (vm_Ex E 2) k_M_apart (vPM μ m (o_apart z (nI c))) (45, [.ref m, .int (nI c), .int (vo32 (vap (zT z) j).1), .int (nI j), u, v, y], [.int (vm_bi P)], 0, 0, μ) := by
        intro P _ hP
        refine vm_r_istore4 rfl rfl ?_
        refine vm_r_iconst (kI := nI 0) rfl ?_
        refine vm_r_istore5 rfl rfl ?_
        refine vm_up (P := fun g => ∀ (y : Value) (R : Prop) [Decidable R], (R ↔ P ∧ ∀ a, a < g → ∀ b, b < a → vpt (zT z) j a b) → vm_W E (vm_Ex E 2) k_M_apart (vPM μ m (o_apart z (nI c))) (50, [.ref m, .int (nI c), .int (vo32 (vap (zT z) j).1), .int (nI j), .int (vm_bi R), .int (nI g), y], [], 0, 0, μ)) (N := tG (zT z)) ?_ ?_ 0 (by omega) y P ⟨fun q => ⟨q, fun a ha => absurd ha (Nat.not_lt_zero a)⟩, fun q => q.1⟩
        · intro y R _ hR
          rw [vap_s] at ih
          refine vm_r_iload rfl rfl ?_
          refine vm_r_aload_n rfl rfl rfl ?_
          refine vm_r_getR rfl (h.1.r2) ?_
          refine vm_r_iconst (kI := nI 0) rfl ?_
          refine vm_r_iaload rfl (h.1.s2) (by omega) (by omega) (h.2.2.1.1) ?_
          first | refine vm_r_icmp_geN rfl (by omega) (by omega) (fun _ => ?_) (fun hn => absurd hn (by omega)) | refine vm_r_icmp_ge rfl (fun _ => ?_) (fun hn => absurd hn (by omega))
          refine vm_r_iload rfl rfl ?_
          first | refine vm_r_if_eqB rfl (fun o => ?_) (fun o => ?_) | refine vm_r_if_eqN rfl (by omega) (fun o => ?_) (fun o => ?_) | refine vm_r_if_eq rfl (fun o => ?_) (fun o => ?_)
          · rw [if_neg (fun q => o (hR.mpr ⟨hP.mpr q.1, hd.mp q.2⟩))] at ih
            refine vm_r_iload_n rfl rfl rfl ?_
            refine vm_r_istore_n2 rfl rfl rfl ?_
            first | refine vm_r_iinc3N (y := 1) rfl rfl ?_ | refine vm_r_iinc3 rfl rfl ?_
            refine vm_r_goto rfl ?_
            exact ih _ _ _
          · have q := hR.mp o
            rw [if_pos ⟨hP.mp q.1, hd.mpr q.2⟩] at ih
            have e4 : vo32 (j, vbc j).1 = nI j := if_neg (by show ¬ j = 32; omega)
            rw [e4] at ih
            refine vm_r_iload_n rfl rfl rfl ?_
            refine vm_r_goto rfl ?_
            refine vm_r_istore_n2 rfl rfl rfl ?_
            first | refine vm_r_iinc3N (y := 1) rfl rfl ?_ | refine vm_r_iinc3 rfl rfl ?_
            refine vm_r_goto rfl ?_
            exact ih _ _ _
        · intro g hg ih2 y R _ hR
          refine vm_r_iload rfl rfl ?_
          refine vm_r_aload_n rfl rfl rfl ?_
          refine vm_r_getR rfl (h.1.r2) ?_
          refine vm_r_iconst (kI := nI 0) rfl ?_
          refine vm_r_iaload rfl (h.1.s2) (by omega) (by omega) (h.2.2.1.1) ?_
          first | refine vm_r_icmp_geN rfl (by omega) (by omega) (fun hn => absurd hn (by omega)) (fun _ => ?_) | refine vm_r_icmp_ge rfl (fun hn => absurd hn (by omega)) (fun _ => ?_)
          refine vm_r_iconst (kI := nI 0) rfl ?_
          refine vm_r_istore6 rfl rfl ?_
          refine vm_up (P := fun b => ∀ (S : Prop) [Decidable S], (S ↔ (P ∧ ∀ a, a < g → ∀ b, b < a → vpt (zT z) j a b) ∧ ∀ i, i < b → vpt (zT z) j g i) → vm_W E (vm_Ex E 2) k_M_apart (vPM μ m (o_apart z (nI c))) (64, [.ref m, .int (nI c), .int (vo32 (vap (zT z) j).1), .int (nI j), .int (vm_bi S), .int (nI g), .int (nI b)], [], 0, 0, μ)) (N := g) ?_ ?_ 0 (by omega) R ⟨fun q => ⟨hR.mp q, fun a ha => absurd ha (Nat.not_lt_zero a)⟩, fun q => hR.mpr q.1⟩
          · intro S _ hS
            refine vm_r_iload rfl rfl ?_
            refine vm_r_iload rfl rfl ?_
            first | refine vm_r_icmp_geN rfl (by omega) (by omega) (fun _ => ?_) (fun hn => absurd hn (by omega)) | refine vm_r_icmp_ge rfl (fun _ => ?_) (fun hn => absurd hn (by omega))
            first | refine vm_r_iinc5N (y := 1) rfl rfl ?_ | refine vm_r_iinc5 rfl rfl ?_
            refine vm_r_goto rfl ?_
            refine ih2 _ S ⟨fun q => ?_, fun q => ?_⟩
            · obtain ⟨⟨q1, q2⟩, q3⟩ := hS.mp q
              refine ⟨q1, fun a ha b hb => ?_⟩
              rcases Nat.lt_or_ge a g with w | w
              · exact q2 a w b hb
              · obtain rfl : a = g := by omega
                exact q3 b hb
            · exact hS.mpr ⟨⟨q.1, fun a ha => q.2 a (by omega)⟩, q.2 g (by omega)⟩
          · intro b hb ih3 S _ hS
            refine vm_r_iload rfl rfl ?_
            refine vm_r_iload rfl rfl ?_
            first | refine vm_r_icmp_geN rfl (by omega) (by omega) (fun hn => absurd hn (by omega)) (fun _ => ?_) | refine vm_r_icmp_ge rfl (fun hn => absurd hn (by omega)) (fun _ => ?_)
            refine vm_r_iload rfl rfl ?_
            first | refine vm_r_if_eqB rfl (fun o => ?_) (fun o => ?_) | refine vm_r_if_eqN rfl (by omega) (fun o => ?_) (fun o => ?_) | refine vm_r_if_eq rfl (fun o => ?_) (fun o => ?_)
            · refine vm_r_iconst (kI := nI 0) rfl ?_
              refine vm_r_istore4 rfl rfl ?_
              first | refine vm_r_iinc6N (y := 1) rfl rfl ?_ | refine vm_r_iinc6 rfl rfl ?_
              refine vm_r_goto rfl ?_
              exact ih3 False ⟨False.elim, fun q => o (hS.mpr ⟨q.1, fun i hi => q.2 i (by omega)⟩)⟩
            · refine vm_r_aload_n rfl rfl rfl ?_
              refine vm_r_iload_n rfl rfl rfl ?_
              refine vm_r_iload rfl rfl ?_
              refine vm_r_iload rfl rfl ?_
              refine vm_r_cv4I rfl (by decide) (h.1.ob) (Nat.le_of_ble_eq_true rfl) (vm_Ex_le (by first | exact Nat.le_of_ble_eq_true rfl | omega) (c_M_parts h k hj hg (by omega))) ?_
              first | refine vm_r_if_eqB rfl (fun w => ?_) (fun w => ?_) | refine vm_r_if_eqN rfl (by omega) (fun w => ?_) (fun w => ?_) | refine vm_r_if_eq rfl (fun w => ?_) (fun w => ?_)
              · refine vm_r_iconst (kI := nI 0) rfl ?_
                refine vm_r_istore4 rfl rfl ?_
                first | refine vm_r_iinc6N (y := 1) rfl rfl ?_ | refine vm_r_iinc6 rfl rfl ?_
                refine vm_r_goto rfl ?_
                exact ih3 False ⟨False.elim, fun q => w (((vpt_iff k.1 hj hg (by omega)).trans (vpl_iff (zT z) j g b 5).symm).mp (q.2 b (by omega)))⟩
              · refine vm_r_iconst (kI := nI 1) rfl ?_
                refine vm_r_goto rfl ?_
                refine vm_r_istore4 rfl rfl ?_
                first | refine vm_r_iinc6N (y := 1) rfl rfl ?_ | refine vm_r_iinc6 rfl rfl ?_
                refine vm_r_goto rfl ?_
                refine ih3 True ⟨fun _ => ⟨(hS.mp o).1, fun i hi => ?_⟩, fun _ => trivial⟩
                rcases Nat.lt_or_ge i b with r | r
                · exact (hS.mp o).2 i r
                · obtain rfl : i = b := by omega
                  exact ((vpt_iff k.1 hj hg (by omega)).trans (vpl_iff (zT z) j g i 5).symm).mpr w
      rcases vap_v (zT z) j with ⟨e1, e2⟩ | ⟨e1, e2⟩
      · have e3 : vo32 (vap (zT z) j).1 = -4 := if_pos e1
        rw [e3] at inner ⊢
        refine vm_r_iload_n rfl rfl rfl ?_
        refine vm_r_bipush (kI := nI 32) rfl ?_
        first | refine vm_r_icmp_geN rfl (by omega) (by omega) (fun hn => absurd hn (by omega)) (fun _ => ?_) | refine vm_r_icmp_ge rfl (fun hn => absurd hn (by omega)) (fun _ => ?_)
        refine vm_r_iload_n rfl rfl rfl ?_
        refine vm_r_bipush rfl ?_
        refine vm_r_icmp_eq rfl (fun _ => ?_) (fun hn => absurd hn ((by decide)))
        refine vm_r_iconst (kI := nI 1) rfl ?_
        refine vm_r_goto rfl ?_
        exact inner True ⟨fun _ => by rw [e2]; have : vbc j ≤ 5 := fb_ct_le _ 5; omega, fun _ => trivial⟩
      · have e3 : vo32 (vap (zT z) j).1 = nI (vap (zT z) j).1 := if_neg (by omega)
        have b1 : vbc j ≤ 5 := fb_ct_le _ 5
        have b2 : vbc (vap (zT z) j).1 ≤ 5 := fb_ct_le _ 5
        rw [e3] at inner ⊢
        refine vm_r_iload_n rfl rfl rfl ?_
        refine vm_r_bipush (kI := nI 32) rfl ?_
        first | refine vm_r_icmp_geN rfl (by omega) (by omega) (fun hn => absurd hn (by omega)) (fun _ => ?_) | refine vm_r_icmp_ge rfl (fun hn => absurd hn (by omega)) (fun _ => ?_)
        refine vm_r_iload_n rfl rfl rfl ?_
        refine vm_r_bipush rfl ?_
        refine vm_r_icmp_eq rfl (fun hn => absurd hn ((v_nI4 (by omega)))) (fun _ => ?_)
        refine vm_r_iload_n rfl rfl rfl ?_
        refine vm_r_cs1I rfl (by decide) (Nat.le_of_ble_eq_true rfl) (vm_Ex_le (by first | exact Nat.le_of_ble_eq_true rfl | omega) (c_M_ones hj)) ?_
        refine vm_r_iload_n rfl rfl rfl ?_
        refine vm_r_cs1I rfl (by decide) (Nat.le_of_ble_eq_true rfl) (vm_Ex_le (by first | exact Nat.le_of_ble_eq_true rfl | omega) (c_M_ones (by omega))) ?_
        first | refine vm_r_icmp_geN rfl (by omega) (by omega) (fun o => ?_) (fun o => ?_) | refine vm_r_icmp_ge rfl (fun o => ?_) (fun o => ?_)
        · refine vm_r_iconst (kI := nI 0) rfl ?_
          exact inner False ⟨False.elim, fun q => by omega⟩
        · refine vm_r_iconst (kI := nI 1) rfl ?_
          refine vm_r_goto rfl ?_
          exact inner True ⟨fun _ => by omega, fun _ => trivial⟩
  · refine vm_r_iconst rfl ?_
    refine vm_r_ret rfl (fun h => by cases h) (vPM.pure h (by rw [if_neg (show ¬ vrg w 1 from hw)]))
end MAPI5
