/-! A shelf of towns. -/
/-- all but the cells lo to hi stays -/
def vx (μ μ' : vm_M) (lo hi : Nat) : Prop := μ'.1 = μ.1 ∧ μ'.2.2.2.2 = μ.2.2.2.2 ∧ ∀ o, (o < lo ∨ hi < o) → μ'.2.1 o = μ.2.1 o ∧ μ'.2.2.1 o = μ.2.2.1 o ∧ μ'.2.2.2.1 o = μ.2.2.2.1 o
theorem vx.rf {μ : vm_M} {lo hi : Nat} : vx μ μ lo hi := ⟨rfl, rfl, fun _ _ => ⟨rfl, rfl, rfl⟩⟩
theorem vx.tr {μ μ1 μ2 : vm_M} {lo hi : Nat} (h : vx μ μ1 lo hi) (h2 : vx μ1 μ2 lo hi) : vx μ μ2 lo hi := ⟨h2.1.trans h.1, h2.2.1.trans h.2.1, fun o ho => ⟨(h2.2.2 o ho).1.trans (h.2.2 o ho).1, (h2.2.2 o ho).2.1.trans (h.2.2 o ho).2.1, (h2.2.2 o ho).2.2.trans (h.2.2 o ho).2.2⟩⟩
theorem vx.wd {μ μ1 : vm_M} {lo hi lo' hi' : Nat} (h : vx μ μ1 lo hi) (h1 : lo' ≤ lo) (h2 : hi ≤ hi') : vx μ μ1 lo' hi' := ⟨h.1, h.2.1, fun o ho => h.2.2 o (by omega)⟩
theorem vf.x {μ μ1 : vm_M} {lo hi : Nat} (h : vf μ μ1 lo hi) : vx μ μ1 lo hi := ⟨h.1, by rw [h.2.1], fun o ho => ⟨h.2.2 o ho, by rw [h.2.1], by rw [h.2.1]⟩⟩
theorem vx.mR {μ : vm_M} {lo hi o k : Nat} {v : Option Nat} (h1 : lo ≤ o) (h2 : o ≤ hi) : vx μ (vm_mR μ o k v) lo hi := ⟨rfl, rfl, fun x hx => ⟨rfl, if_neg (by omega), rfl⟩⟩
theorem vf2.x {μ μ1 : vm_M} {s t lo hi : Nat} (h : vf2 μ μ1 s t) (h1 : lo ≤ s) (h2 : s ≤ hi) (h3 : lo ≤ t) (h4 : t + 5 ≤ hi) : vx μ μ1 lo hi := ⟨h.1, by rw [h.2.1], fun o ho => ⟨h.2.2 o (by omega) (by omega), by rw [h.2.1], by rw [h.2.1]⟩⟩
theorem vt_C.keepx {μ μ' : vm_M} {t lo hi : Nat} {T : vt_T} (h : vt_C μ t T) (f : vx μ μ' lo hi) (hd : t + 5 < lo ∨ hi < t) : vt_C μ' t T := by
  have g : ∀ o, t ≤ o → o ≤ t + 5 → μ'.2.1 o = μ.2.1 o := fun o h1 h2 => (f.2.2 o (by omega)).1
  obtain ⟨h1, h2, h3, h4, h5, h6, h7, h8⟩ := h
  refine ⟨by rw [f.1]; exact h1, h2, by rw [g _ (by omega) (by omega)]; exact h3, by rw [g _ (by omega) (by omega)]; exact h4, by rw [g _ (by omega) (by omega)]; exact h5, by rw [g _ (by omega) (by omega)]; exact h6, fun g' hg => ?_, fun p hp => ?_⟩
  · rw [g _ (by omega) (by omega), g _ (by omega) (by omega), g _ (by omega) (by omega)]
    exact h7 g' hg
  · rw [g _ (by omega) (by omega), g _ (by omega) (by omega)]
    exact h8 p hp
theorem vS.keepx {μ μ' : vm_M} {s lo hi n a : Nat} {x : Nat → Nat} (h : vS μ s x n a) (f : vx μ μ' lo hi) (hd : s + 1 < lo ∨ hi < s) : vS μ' s x n a := by
  obtain ⟨h1, h2, h3, h4, h5⟩ := h
  refine ⟨by rw [f.1]; exact h1, h2, by rw [(f.2.2 _ (by omega)).1]; exact h3, by rw [(f.2.2 _ (by omega)).1]; exact h4, fun j hj => by rw [(f.2.2 _ (by omega)).1]; exact h5 j hj⟩
/-- a shelf at q with room for cap towns: how its row is laid, how many it holds, which -/
def vH (μ : vm_M) (q cap : Nat) (f : Nat → Nat) (h : Nat) (Ts : Nat → vt_T) : Prop := (μ.1 q = some (.inl (3, [some (some (q + 1)), none])) ∧ μ.1 (q + 1) = some (.inr (4, cap))) ∧ (0 < cap ∧ cap ≤ 8 ∧ h ≤ cap) ∧ μ.2.1 q 1 = nI h ∧
  (∀ j, j < cap → μ.2.2.1 (q + 1) j = some (q + 2 + 6 * f j) ∧ f j < cap ∧ vs_T μ.1 (q + 2 + 6 * f j)) ∧ (∀ i j, i < cap → j < cap → f i = f j → i = j) ∧ ∀ j, j < h → vt_C μ (q + 2 + 6 * f j) (Ts j)
theorem vH.keepx {μ μ' : vm_M} {q cap h lo hi : Nat} {f : Nat → Nat} {Ts : Nat → vt_T} (a : vH μ q cap f h Ts) (x : vx μ μ' lo hi) (hd : q + 1 + 6 * cap < lo ∨ hi < q) : vH μ' q cap f h Ts := by
  obtain ⟨a1, a2, a3, a4, a5, a6⟩ := a
  refine ⟨by rw [x.1]; exact a1, a2, by rw [(x.2.2 _ (by omega)).1]; exact a3, fun j hj => ?_, a5, fun j hj => ?_⟩
  · rw [x.1, (x.2.2 _ (by omega)).2.1]
    exact a4 j hj
  · have := (a4 j (by omega)).2.1
    exact (a6 j hj).keepx x (by omega)
section SHELF
variable {E : vm_V} {μ : vm_M} {q cap h t : Nat} {f : Nat → Nat} {Ts : Nat → vt_T} {T : vt_T}
theorem vH.r0 (a : vH μ q cap f h Ts) : vm_gR μ q 3 0 (q + 1) := ⟨_, a.1.1, rfl⟩
theorem vH.gH (a : vH μ q cap f h Ts) : vm_gI μ q 3 1 (nI h) := ⟨_, a.1.1, rfl, a.2.2.1⟩
theorem vH.wH (a : vH μ q cap f h Ts) : vm_gW μ q 3 1 := ⟨_, a.1.1, rfl⟩
theorem vH.ob (a : vH μ q cap f h Ts) : vm_ob μ q 3 := ⟨_, a.1.1⟩
theorem vH.sh (a : vH μ q cap f h Ts) : μ.1 (q + 1) = some (.inr (4, cap)) := a.1.2
theorem vH.v {j : Nat} (a : vH μ q cap f h Ts) (hj : j < cap) : μ.2.2.1 (q + 1) j = some (q + 2 + 6 * f j) := (a.2.2.2.1 j hj).1
theorem vH.fl {j : Nat} (a : vH μ q cap f h Ts) (hj : j < cap) : f j < cap := (a.2.2.2.1 j hj).2.1
theorem vH.s {j : Nat} (a : vH μ q cap f h Ts) (hj : j < cap) : vs_T μ.1 (q + 2 + 6 * f j) := (a.2.2.2.1 j hj).2.2
theorem vH.tw {j : Nat} (a : vH μ q cap f h Ts) (hj : j < h) : vt_C μ (q + 2 + 6 * f j) (Ts j) := a.2.2.2.2.2 j hj
theorem vH.setH {h' : Nat} {Ts' : Nat → vt_T} (a : vH μ q cap f h Ts) (h1 : h' ≤ cap) (h2 : ∀ j, j < h' → vt_C μ (q + 2 + 6 * f j) (Ts' j)) : vH (vm_mI μ q 1 (nI h')) q cap f h' Ts' := by
  obtain ⟨a1, a2, a3, a4, a5, a6⟩ := a
  refine ⟨a1, ⟨a2.1, a2.2.1, h1⟩, rI_eq, a4, a5, fun j hj => ?_⟩
  exact (h2 j hj).keep (vf.mI (Nat.le_refl q) (Nat.le_refl q)) (by omega)
theorem c_SH_clear (a : vH μ q cap f h Ts) : vm_Ex E 1 n_SH_clear [.ref q] 0 0 μ (vm_PV (fun μ' => vf μ μ' q q ∧ vH μ' q cap f 0 Ts)) := by
  refine vm_start (D := 0) (by decide) rfl (Nat.le_of_ble_eq_true rfl) (k := k_SH_clear) rfl (L := [.ref q]) rfl ?_
  refine vm_r_aload_n rfl rfl rfl ?_
  refine vm_r_iconst (kI := nI 0) rfl ?_
  refine vm_r_putI rfl (a.wH) ?_
  refine vm_r_vret rfl (⟨rfl, vf.mI (Nat.le_refl q) (Nat.le_refl q), a.setH (Nat.zero_le _) (fun j hj => absurd hj (Nat.not_lt_zero j))⟩)
theorem rR_eq {μ : vm_M} {o k : Nat} {v : Option Nat} : (vm_mR μ o k v).2.2.1 o k = v := by
  show vm_u μ.2.2.1 o k v o k = v
  exact (congrFun vm_u_eq k).trans (if_pos rfl)
theorem rR_nk {μ : vm_M} {o k j : Nat} {v : Option Nat} (h : j ≠ k) : (vm_mR μ o k v).2.2.1 o j = μ.2.2.1 o j := by
  show vm_u μ.2.2.1 o k v o j = _
  exact (congrFun vm_u_eq j).trans (if_neg h)
theorem c_SH_dropOldest (a : vH μ q cap f h Ts) (hh : h = cap) : vm_Ex E 1 n_SH_dropOldest [.ref q] 0 0 μ (vm_PV (fun μ' => vx μ μ' q (q + 1) ∧ vH μ' q cap (fun j => if j + 1 = cap then f 0 else f (j + 1)) (cap - 1) (fun j => Ts (j + 1)))) := by
  subst hh
  obtain ⟨h0, h8, -⟩ := a.2.1
  refine vm_start (D := 0) (by decide) rfl (Nat.le_of_ble_eq_true rfl) (k := k_SH_dropOldest) rfl (L := [.ref q, .retAddr 0, .retAddr 0]) rfl ?_
  refine vm_r_aload_n rfl rfl rfl ?_
  refine vm_r_getR rfl (a.r0) ?_
  refine vm_r_iconst (kI := nI 0) rfl ?_
  refine vm_r_aaload rfl (Or.inl a.sh) (by omega) (by omega) (a.v h0) ?_
  refine vm_r_astore_n1 rfl rfl rfl ?_
  refine vm_r_iconst (kI := nI 1) rfl ?_
  refine vm_r_istore_n2 rfl rfl rfl ?_
  refine vm_up (P := fun i => ∀ μ1 : vm_M, vx μ μ1 (q + 1) (q + 1) → μ1.2.1 = μ.2.1 → (∀ j, j < i → μ1.2.2.1 (q + 1) j = some (q + 2 + 6 * f (j + 1))) → (∀ j, i ≤ j → μ1.2.2.1 (q + 1) j = μ.2.2.1 (q + 1) j) → vm_W E (vm_Ex E 0) k_SH_dropOldest _ (9, [.ref q, .ref (q + 2 + 6 * f 0), .int (nI (i + 1))], [], 0, 0, μ1)) (N := h - 1) ?_ ?_ 0 (by omega) μ vx.rf rfl (fun j hj => absurd hj (Nat.not_lt_zero j)) (fun _ _ => rfl)
  · intro μ1 x1 e1 g1 g2
    have r0 : vm_gR μ1 q 3 0 (q + 1) := ⟨_, by rw [x1.1]; exact a.1.1, rfl⟩
    have sh : μ1.1 (q + 1) = some (.inr (4, h)) := by rw [x1.1]; exact a.sh
    have ob : vm_ob μ1 (q + 2 + 6 * f 0) 4 := ⟨_, by rw [x1.1]; exact (a.s h0).1⟩
    have wH : vm_gW μ1 q 3 1 := ⟨_, by rw [x1.1]; exact a.1.1, rfl⟩
    refine vm_r_iload_n rfl rfl rfl ?_
    refine vm_r_aload_n rfl rfl rfl ?_
    refine vm_r_getR rfl (r0) ?_
    refine vm_r_alen rfl (sh) (by decide) ?_
    first | refine vm_r_icmp_geN rfl (by omega) (by omega) (fun _ => ?_) (fun hn => absurd hn (by omega)) | refine vm_r_icmp_ge rfl (fun _ => ?_) (fun hn => absurd hn (by omega))
    refine vm_r_aload_n rfl rfl rfl ?_
    refine vm_r_getR rfl (r0) ?_
    refine vm_r_aload_n rfl rfl rfl ?_
    refine vm_r_getR rfl (r0) ?_
    refine vm_r_alen rfl (sh) (by decide) ?_
    refine vm_r_iconst (kI := nI 1) rfl ?_
    first | refine vm_r_isubN rfl (by omega) ?_ | refine vm_r_isub rfl ?_
    refine vm_r_aload_n rfl rfl rfl ?_
    refine vm_r_aastore rfl (sh) (by omega) (by omega) (ob) ?_
    refine vm_r_aload_n rfl rfl rfl ?_
    refine vm_r_aload_n rfl rfl rfl ?_
    refine vm_r_getR rfl (r0) ?_
    refine vm_r_alen rfl (sh) (by decide) ?_
    refine vm_r_iconst (kI := nI 1) rfl ?_
    first | refine vm_r_isubN rfl (by omega) ?_ | refine vm_r_isub rfl ?_
    refine vm_r_putI rfl (wH) ?_
    refine vm_r_vret rfl (⟨rfl, ?_, ?_⟩)
    · exact ((x1.wd (by omega) (by omega)).tr (vx.mR (by omega) (by omega))).tr (vf.mI (by omega) (by omega)).x
    · refine ⟨⟨by rw [← a.1.1]; exact congrFun x1.1 q, sh⟩, ⟨h0, h8, by omega⟩, rI_eq, fun j hj => ?_, fun i j hi hj e => ?_, fun j hj => ?_⟩
      · show (vm_mR μ1 (q + 1) (h - 1) (some (q + 2 + 6 * f 0))).2.2.1 (q + 1) j = _ ∧ _ ∧ vs_T μ1.1 _
        rw [x1.1]
        by_cases e : j + 1 = h
        · dsimp only
          rw [if_pos e, show j = h - 1 by omega]
          exact ⟨rR_eq, a.fl h0, a.s h0⟩
        · dsimp only
          rw [if_neg e, rR_nk (by omega), g1 j (by omega)]
          exact ⟨rfl, a.fl (by omega), a.s (by omega)⟩
      · dsimp only at e
        by_cases e1 : i + 1 = h
        · by_cases e2 : j + 1 = h
          · omega
          · rw [if_pos e1, if_neg e2] at e
            have := a.2.2.2.2.1 _ _ h0 (by omega) e
            omega
        · by_cases e2 : j + 1 = h
          · rw [if_neg e1, if_pos e2] at e
            have := a.2.2.2.2.1 _ _ (by omega) h0 e
            omega
          · rw [if_neg e1, if_neg e2] at e
            have := a.2.2.2.2.1 _ _ (by omega) (by omega) e
            omega
      · dsimp only
        rw [if_neg (by omega)]
        have c1 := a.tw (j := j + 1) (by omega)
        have hf := a.fl (j := j + 1) (by omega)
        exact (c1.keepx (x1.wd (Nat.le_succ q) (Nat.le_refl _)) (by omega)).keepx ((vx.mR (lo := q) (hi := q + 1) (by omega) (by omega)).tr (vf.mI (lo := q) (hi := q + 1) (by omega) (by omega)).x) (by omega)
  · intro i hi ih μ1 x1 e1 g1 g2
    have r0 : vm_gR μ1 q 3 0 (q + 1) := ⟨_, by rw [x1.1]; exact a.1.1, rfl⟩
    have sh : μ1.1 (q + 1) = some (.inr (4, h)) := by rw [x1.1]; exact a.sh
    have v1 : μ1.2.2.1 (q + 1) (i + 1) = some (q + 2 + 6 * f (i + 1)) := by
      rw [g2 _ (by omega)]
      exact a.v (by omega)
    have ob : vm_ob μ1 (q + 2 + 6 * f (i + 1)) 4 := ⟨_, by rw [x1.1]; exact (a.s (by omega)).1⟩
    refine vm_r_iload_n rfl rfl rfl ?_
    refine vm_r_aload_n rfl rfl rfl ?_
    refine vm_r_getR rfl (r0) ?_
    refine vm_r_alen rfl (sh) (by decide) ?_
    first | refine vm_r_icmp_geN rfl (by omega) (by omega) (fun hn => absurd hn (by omega)) (fun _ => ?_) | refine vm_r_icmp_ge rfl (fun hn => absurd hn (by omega)) (fun _ => ?_)
    refine vm_r_aload_n rfl rfl rfl ?_
    refine vm_r_getR rfl (r0) ?_
    refine vm_r_iload_n rfl rfl rfl ?_
    refine vm_r_iconst (kI := nI 1) rfl ?_
    first | refine vm_r_isubN rfl (by omega) ?_ | refine vm_r_isub rfl ?_
    refine vm_r_aload_n rfl rfl rfl ?_
    refine vm_r_getR rfl (r0) ?_
    refine vm_r_iload_n rfl rfl rfl ?_
    refine vm_r_aaload rfl (Or.inl sh) (by omega) (by omega) (v1) ?_
    refine vm_r_aastore rfl (sh) (by omega) (by omega) (ob) ?_
    first | refine vm_r_iinc2N (y := 1) rfl rfl ?_ | refine vm_r_iinc2 rfl rfl ?_
    refine vm_r_goto rfl ?_
    refine ih _ (x1.tr (vx.mR (by omega) (by omega))) e1 (fun j hj => ?_) (fun j hj => ?_)
    · by_cases e : j = i
      · subst e
        rw [show j + 1 - 1 = j by omega]
        exact rR_eq
      · rw [rR_nk (by omega)]
        exact g1 j (by omega)
    · rw [rR_nk (by omega)]
      exact g2 j (by omega)
/-- what is on the shelf when a town has been put there -/
def vput (cap h : Nat) (Ts : Nat → vt_T) (T : vt_T) : Nat → vt_T := if h < cap then vu Ts h T else fun j => if j + 1 = cap then T else Ts (j + 1)
def vpuh (cap h : Nat) : Nat := if h < cap then h + 1 else cap
theorem vH.wH' (a : vH μ q cap f h Ts) : vm_gW μ q 3 1 := ⟨_, a.1.1, rfl⟩
theorem c_SH_put_aux (a : vH μ q cap f h Ts) (hh : h < cap) (ht : vt_C μ t T) (hd : t + 5 < q ∨ q + 1 + 6 * cap < t) {Qf : Option Value → vm_M → Prop} (hQ : ∀ μ', vx μ μ' q (q + 1 + 6 * cap) → vH μ' q cap f (h + 1) (vu Ts h T) → Qf none μ') : vm_W E (vm_Ex E 2) k_SH_put Qf (16, [.ref q, .ref t, .retAddr 0], [], 0, 0, μ) := by
  have hf := a.fl hh
  obtain ⟨h0, h8, -⟩ := a.2.1
  refine vm_r_aload_n rfl rfl rfl ?_
  refine vm_r_getR rfl (a.r0) ?_
  refine vm_r_aload_n rfl rfl rfl ?_
  refine vm_r_getI rfl (a.gH) ?_
  refine vm_r_aaload rfl (Or.inl a.sh) (by omega) (by omega) (a.v hh) ?_
  refine vm_r_astore_n2 rfl rfl rfl ?_
  refine vm_r_aload_n rfl rfl rfl ?_
  refine vm_r_ifnull rfl ?_
  refine vm_r_aload_n rfl rfl rfl ?_
  refine vm_r_aload_n rfl rfl rfl ?_
  refine vm_r_cv2V rfl (by decide) (vs_T.ob (a.s hh)) (Nat.le_of_ble_eq_true rfl) (vm_Ex_le (by first | exact Nat.le_of_ble_eq_true rfl | omega) (c_TN_copyFrom (a.s hh) ht (by omega))) (fun μ1 q1 => ?_)
  obtain ⟨f1, t1⟩ := q1
  have x1 : vx μ μ1 q (q + 1 + 6 * cap) := f1.x.wd (by omega) (by omega)
  have gH1 : vm_gI μ1 q 3 1 (nI h) := ⟨_, by rw [f1.1]; exact a.1.1, rfl, by rw [f1.2.2 _ (by omega)]; exact a.2.2.1⟩
  have e : vH (vm_mI μ1 q 1 (nI (h + 1))) q cap f (h + 1) (vu Ts h T) := by
    refine ⟨⟨by rw [← a.1.1]; exact congrFun f1.1 q, by rw [← a.sh]; exact congrFun f1.1 (q + 1)⟩, ⟨h0, h8, by omega⟩, rI_eq, fun j hj => ?_, a.2.2.2.2.1, fun j hj => ?_⟩
    · show μ1.2.2.1 (q + 1) j = _ ∧ _ ∧ vs_T μ1.1 _
      rw [f1.1, f1.2.1]
      exact a.2.2.2.1 j hj
    · refine vt_C.keep (μ := μ1) (lo := q) (hi := q) ?_ (vf.mI (Nat.le_refl q) (Nat.le_refl q)) (by omega)
      by_cases e : j = h
      · subst e
        rw [vu_eq]
        exact t1
      · rw [vu_ne e]
        have hfj := a.fl (j := j) (by omega)
        have hne : f j ≠ f h := fun z => e (a.2.2.2.2.1 _ _ (by omega) (by omega) z)
        exact (a.tw (by omega)).keep f1 (by omega)
  refine vm_r_aload_n rfl rfl rfl ?_
  refine vm_r_dup rfl rfl ?_
  refine vm_r_getI rfl (gH1) ?_
  refine vm_r_iconst (kI := nI 1) rfl ?_
  first | refine vm_r_iaddN rfl ?_ | refine vm_r_iadd rfl ?_
  refine vm_r_putI rfl (vm_gI.w gH1) ?_
  refine vm_r_vret rfl (hQ _ (x1.tr (vf.mI (by omega) (by omega)).x) e)
theorem c_SH_put (a : vH μ q cap f h Ts) (ht : vt_C μ t T) (hd : t + 5 < q ∨ q + 1 + 6 * cap < t) : vm_Ex E 3 n_SH_put [.ref q, .ref t] 0 0 μ (vm_PV (fun μ' => vx μ μ' q (q + 1 + 6 * cap) ∧ ∃ f', vH μ' q cap f' (vpuh cap h) (vput cap h Ts T))) := by
  obtain ⟨h0, h8, hhc⟩ := a.2.1
  refine vm_start (D := 2) (by decide) rfl (Nat.le_of_ble_eq_true rfl) (k := k_SH_put) rfl (L := [.ref q, .ref t, .retAddr 0]) rfl ?_
  refine vm_r_aload_n rfl rfl rfl ?_
  refine vm_r_getI rfl (a.gH) ?_
  refine vm_r_aload_n rfl rfl rfl ?_
  refine vm_r_getR rfl (a.r0) ?_
  refine vm_r_alen rfl (a.sh) (by decide) ?_
  first | refine vm_r_icmp_ltN rfl (by omega) (by omega) (fun e => ?_) (fun e => ?_) | refine vm_r_icmp_lt rfl (fun e => ?_) (fun e => ?_)
  · refine c_SH_put_aux a e ht hd fun μ' x1 a1 => ⟨rfl, x1, f, ?_⟩
    unfold vpuh vput
    rw [if_pos e, if_pos e]
    exact a1
  · refine vm_r_aload_n rfl rfl rfl ?_
    refine vm_r_cv1V rfl (by decide) (a.ob) (Nat.le_of_ble_eq_true rfl) (vm_Ex_le (by first | exact Nat.le_of_ble_eq_true rfl | omega) (c_SH_dropOldest a (by omega))) (fun μ1 q1 => ?_)
    obtain ⟨x1, a1⟩ := q1
    refine c_SH_put_aux a1 (by omega) (ht.keepx x1 (by omega)) hd fun μ' x2 a2 => ⟨rfl, (x1.wd (by omega) (by omega)).tr x2, (fun j => if j + 1 = cap then f 0 else f (j + 1)), ?_⟩
    unfold vpuh vput
    rw [if_neg (by omega), if_neg (by omega)]
    rw [show cap - 1 + 1 = cap by omega] at a2
    have e2 : (fun j => if j + 1 = cap then T else Ts (j + 1)) = vu (fun j => Ts (j + 1)) (cap - 1) T := by
      funext j
      unfold vu
      by_cases e : j + 1 = cap
      · rw [if_pos e, if_pos (by omega)]
      · rw [if_neg e, if_neg (by omega)]
    rw [e2]
    exact a2
theorem c_SH_takeInto (a : vH μ q cap f h Ts) (ht : vs_T μ.1 t) (hd : t + 5 < q ∨ q + 1 + 6 * cap < t) : vm_Ex E 2 n_SH_takeInto [.ref q, .ref t] 0 0 μ (vm_PX (fun z μ' => (h = 0 ∧ z = 0 ∧ μ' = μ) ∨ (0 < h ∧ z = 1 ∧ (∃ μ1, vf μ μ1 t (t + 5) ∧ vt_C μ1 t (Ts (h - 1)) ∧ vx μ1 μ' q q) ∧ vH μ' q cap f (h - 1) Ts))) := by
  obtain ⟨h0, h8, hhc⟩ := a.2.1
  refine vm_start (D := 1) (by decide) rfl (Nat.le_of_ble_eq_true rfl) (k := k_SH_takeInto) rfl (L := [.ref q, .ref t, .retAddr 0]) rfl ?_
  refine vm_r_aload_n rfl rfl rfl ?_
  refine vm_r_getI rfl (a.gH) ?_
  refine vm_r_iconst (kI := nI 1) rfl ?_
  first | refine vm_r_icmp_geN rfl (by omega) (by omega) (fun e => ?_) (fun e => ?_) | refine vm_r_icmp_ge rfl (fun e => ?_) (fun e => ?_)
  · have hf := a.fl (j := h - 1) (by omega)
    refine vm_r_aload_n rfl rfl rfl ?_
    refine vm_r_getR rfl (a.r0) ?_
    refine vm_r_aload_n rfl rfl rfl ?_
    refine vm_r_getI rfl (a.gH) ?_
    refine vm_r_iconst (kI := nI 1) rfl ?_
    first | refine vm_r_isubN rfl (by omega) ?_ | refine vm_r_isub rfl ?_
    refine vm_r_aaload rfl (Or.inl a.sh) (by omega) (by omega) (a.v (by omega)) ?_
    refine vm_r_astore_n2 rfl rfl rfl ?_
    refine vm_r_aload_n rfl rfl rfl ?_
    refine vm_r_ifnonnull rfl ?_
    refine vm_r_aload_n rfl rfl rfl ?_
    refine vm_r_aload_n rfl rfl rfl ?_
    refine vm_r_cv2V rfl (by decide) (vs_T.ob ht) (Nat.le_of_ble_eq_true rfl) (vm_Ex_le (by first | exact Nat.le_of_ble_eq_true rfl | omega) (c_TN_copyFrom ht (a.tw (j := h - 1) (by omega)) (by omega))) (fun μ1 q1 => ?_)
    obtain ⟨f1, t1⟩ := q1
    have a1 := a.keepx f1.x (by omega)
    refine vm_r_aload_n rfl rfl rfl ?_
    refine vm_r_dup rfl rfl ?_
    refine vm_r_getI rfl (a1.gH) ?_
    refine vm_r_iconst (kI := nI 1) rfl ?_
    first | refine vm_r_isubN rfl (by omega) ?_ | refine vm_r_isub rfl ?_
    refine vm_r_putI rfl (a1.wH) ?_
    refine vm_r_iconst (kI := nI 1) rfl ?_
    refine vm_r_ret rfl (fun _ => by first | exact vm_bi_01 _ | decide) (⟨_, rfl, Or.inr ⟨e, rfl, ⟨μ1, f1, t1, (vf.mI (Nat.le_refl q) (Nat.le_refl q)).x⟩, a1.setH (by omega) (fun j hj => a1.tw (by omega))⟩⟩)
  · refine vm_r_iconst (kI := nI 0) rfl ?_
    refine vm_r_ret rfl (fun _ => by first | exact vm_bi_01 _ | decide) (⟨_, rfl, Or.inl ⟨by omega, rfl, rfl⟩⟩)
end SHELF
