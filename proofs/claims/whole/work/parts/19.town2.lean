/-! A town's methods that change it. -/
def vt0 : vt_T := ((0, 0), fun _ => 0, fun _ => 0, fun _ => 0, fun _ => 0, fun _ => 0, 0, 0)
def vaG (T : vt_T) (kd er s : Nat) : vt_T := ((tG T + 1, tP T), vu (tK T) (tG T) kd, vu (tE T) (tG T) er, vu (tA T) (tG T) s, tB T, tH T, tI T, tO T)
def vaP (T : vt_T) (s : Nat) : vt_T := ((tG T, tP T + 1), tK T, tE T, tA T, vu (tB T) (tP T) s, vu (tH T) (tP T) (-4), tI T, tO T)
def vvis1 (T : vt_T) (p g : Nat) : vt_T := (T.1, tK T, tE T, vu (tA T) g (vnr (tA T g) (tB T p) (vwd (fun k => vab (vd (tA T g) k) (vd (tB T p) k)) 5).1), vu (tB T) p (vnr (tB T p) (tA T g) (vfd (vd (tB T p)) (vd (tA T g)))), vu (tH T) p (nI g), tI T + 1, tO T)
def vvis0 (T : vt_T) : vt_T := (T.1, tK T, tE T, tA T, tB T, tH T, tI T, tO T + 1)
def vvis (T : vt_T) (p g : Nat) : vt_T := if vadm T (tB T p) g then vvis1 T p g else vvis0 T
/-- one person's saying, one gate's saying, comes nearer to another's at the first difference -/
def vcon (T : vt_T) (p q : Nat) : vt_T := (T.1, tK T, tE T, tA T, vu (tB T) p (vnr (tB T p) (tB T q) (vfd (vd (tB T p)) (vd (tB T q)))), tH T, tI T, tO T)
def vlis (T : vt_T) (g q : Nat) : vt_T := (T.1, tK T, tE T, vu (tA T) g (vnr (tA T g) (tA T q) (vfd (vd (tA T g)) (vd (tA T q)))), tB T, tH T, tI T, tO T)
theorem vt0_ok : vt_ok vt0 := ⟨by decide, by decide, fun g hg => absurd hg (Nat.not_lt_zero g), fun p hp => absurd hp (Nat.not_lt_zero p)⟩
theorem vaG_ok {T : vt_T} {kd er s : Nat} (h : vt_ok T) (hg : tG T < 5) (hd : kd < 4) (he : er ≤ 40) (hs : vok s) : vt_ok (vaG T kd er s) := by
  refine ⟨by show tG T + 1 ≤ 5; omega, h.2.1, fun g q => ?_, h.2.2.2⟩
  show vu (tK T) (tG T) kd g < 4 ∧ vu (tE T) (tG T) er g ≤ 40 ∧ vok (vu (tA T) (tG T) s g)
  by_cases e : g = tG T
  · subst e
    rw [vu_eq, vu_eq, vu_eq]
    exact ⟨hd, he, hs⟩
  · rw [vu_ne e, vu_ne e, vu_ne e]
    exact h.2.2.1 g (by have : g < tG T + 1 := q; omega)
theorem vaP_ok {T : vt_T} {s : Nat} (h : vt_ok T) (hp : tP T < 6) (hs : vok s) : vt_ok (vaP T s) := by
  refine ⟨h.1, by show tP T + 1 ≤ 6; omega, h.2.2.1, fun p q => ?_⟩
  show vok (vu (tB T) (tP T) s p)
  by_cases e : p = tP T
  · subst e
    rw [vu_eq]
    exact hs
  · rw [vu_ne e]
    exact h.2.2.2 p (by have : p < tP T + 1 := q; omega)
theorem vu_all {P : Nat → Prop} {f : Nat → Nat} {i x n : Nat} (h : ∀ j, j < n → P (f j)) (hx : P x) : ∀ j, j < n → P (vu f i x j) := by
  intro j hj
  unfold vu
  split
  · exact hx
  · exact h j hj
theorem vvis1_ok {T : vt_T} {p g : Nat} (h : vt_ok T) (hp : p < tP T) (hg : g < tG T) : vt_ok (vvis1 T p g) := by
  refine ⟨h.1, h.2.1, fun q hq => ⟨h.K4 hq, h.E40 hq, ?_⟩, ?_⟩
  · exact vu_all (P := vok) (fun j hj => h.A hj) (vnr_ok (h.A hg) (h.B hp)) q hq
  · exact vu_all (P := vok) (fun j hj => h.B hj) (vnr_ok (h.B hp) (h.A hg))
theorem vvis_ok {T : vt_T} {p g : Nat} (h : vt_ok T) (hp : p < tP T) (hg : g < tG T) : vt_ok (vvis T p g) := by
  unfold vvis
  split
  · exact vvis1_ok h hp hg
  · exact h
theorem vcon_ok {T : vt_T} {p q : Nat} (h : vt_ok T) (hp : p < tP T) (hq : q < tP T) : vt_ok (vcon T p q) := ⟨h.1, h.2.1, h.2.2.1, vu_all (P := vok) (fun j hj => h.B hj) (vnr_ok (h.B hp) (h.B hq))⟩
theorem vlis_ok {T : vt_T} {g q : Nat} (h : vt_ok T) (hg : g < tG T) (hq : q < tG T) : vt_ok (vlis T g q) := ⟨h.1, h.2.1, fun j hj => ⟨h.K4 hj, h.E40 hj, vu_all (P := vok) (fun j hj => h.A hj) (vnr_ok (h.A hg) (h.A hq)) j hj⟩, h.2.2.2⟩
/-- what the numbers of a town are -/
theorem vt_I.mk {I : Nat → Nat → Int32} {t : Nat} {T : vt_T} (h5 : I t 5 = nI (tG T)) (h6 : I t 6 = nI (tP T)) (h7 : I t 7 = tI T) (h8 : I t 8 = tO T) (hK : ∀ g, g < tG T → I (t + 1) g = nI (tK T g)) (hE : ∀ g, g < tG T → I (t + 2) g = nI (tE T g)) (hA : ∀ g, g < tG T → I (t + 3) g = nI (tA T g))
    (hB : ∀ p, p < tP T → I (t + 4) p = nI (tB T p)) (hH : ∀ p, p < tP T → I (t + 5) p = tH T p) : vt_I I t T := ⟨h5, h6, h7, h8, fun g hg => ⟨hK g hg, hE g hg, hA g hg⟩, fun p hp => ⟨hB p hp, hH p hp⟩⟩
theorem rI_u {μ : vm_M} {o k j : Nat} {v : Int32} {f : Nat → Nat} {x : Nat} (hv : v = nI x) (h : j ≠ k → μ.2.1 o j = nI (f j)) : (vm_mI μ o k v).2.1 o j = nI (vu f k x j) := by
  by_cases e : j = k
  · subst e
    rw [rI_eq, vu_eq, hv]
  · rw [rI_nk e, vu_ne e, h e]
theorem rI_u' {μ : vm_M} {o k j : Nat} {v : Int32} {f : Nat → Int32} (h : j ≠ k → μ.2.1 o j = f j) : (vm_mI μ o k v).2.1 o j = vu f k v j := by
  by_cases e : j = k
  · subst e
    rw [rI_eq, vu_eq]
  · rw [rI_nk e, vu_ne e, h e]
section TOWN2
variable {E : vm_V} {μ : vm_M} {t u g p q : Nat} {T : vt_T}
theorem c_TN_clear (h : vs_T μ.1 t) : vm_Ex E 1 n_TN_clear [.ref t] 0 0 μ (vm_PV (fun μ' => vf μ μ' t t ∧ vt_C μ' t vt0)) := by
  refine vm_start (D := 0) (by decide) rfl (Nat.le_of_ble_eq_true rfl) (k := k_TN_clear) rfl (L := [.ref t]) rfl ?_
  refine vm_r_aload_n rfl rfl rfl ?_
  refine vm_r_iconst (kI := nI 0) rfl ?_
  refine vm_r_putI rfl (vs_T.wG h) ?_
  refine vm_r_aload_n rfl rfl rfl ?_
  refine vm_r_iconst (kI := nI 0) rfl ?_
  refine vm_r_putI rfl (vs_T.wP h) ?_
  refine vm_r_aload_n rfl rfl rfl ?_
  refine vm_r_iconst (kI := nI 0) rfl ?_
  refine vm_r_putI rfl (vs_T.wI h) ?_
  refine vm_r_aload_n rfl rfl rfl ?_
  refine vm_r_iconst (kI := nI 0) rfl ?_
  refine vm_r_putI rfl (vs_T.wO h) ?_
  refine vm_r_vret rfl (⟨rfl, (((vf.mI (Nat.le_refl _) (Nat.le_refl _)).tr (vf.mI (Nat.le_refl _) (Nat.le_refl _))).tr (vf.mI (Nat.le_refl _) (Nat.le_refl _))).tr (vf.mI (Nat.le_refl _) (Nat.le_refl _)), h, vt0_ok, ?_⟩)
  refine vt_I.mk ?_ ?_ ?_ ?_ (fun g hg => absurd hg (Nat.not_lt_zero g)) (fun g hg => absurd hg (Nat.not_lt_zero g)) (fun g hg => absurd hg (Nat.not_lt_zero g)) (fun g hg => absurd hg (Nat.not_lt_zero g)) (fun g hg => absurd hg (Nat.not_lt_zero g)) <;> try simp (disch := omega) only [rI_eq, rI_no, rI_nk] <;> rfl
theorem c_TN_copyFrom (h : vs_T μ.1 t) (hu : vt_C μ u T) (hd : u + 5 < t ∨ t + 5 < u) : vm_Ex E 1 n_TN_copyFrom [.ref t, .ref u] 0 0 μ (vm_PV (fun μ' => vf μ μ' t (t + 5) ∧ vt_C μ' t T)) := by
  have hG := hu.ok.G5
  have hP := hu.ok.P6
  obtain ⟨k5, k6, k7, k8, kg, kp⟩ := hu.2.2
  refine vm_start (D := 0) (by decide) rfl (Nat.le_of_ble_eq_true rfl) (k := k_TN_copyFrom) rfl (L := [.ref t, .ref u]) rfl ?_
  refine vm_r_aload_n rfl rfl rfl ?_
  refine vm_r_getR rfl (vs_T.rK hu.s) ?_
  refine vm_r_iconst (kI := nI 0) rfl ?_
  refine vm_r_aload_n rfl rfl rfl ?_
  refine vm_r_getR rfl (vs_T.rK h) ?_
  refine vm_r_iconst (kI := nI 0) rfl ?_
  refine vm_r_iconst (kI := nI 5) rfl ?_
  refine vm_r_acopy rfl (Nat.le_of_ble_eq_true rfl) (by omega) (by omega) (by omega) (vs_T.sK hu.s) (vs_T.sK h) ?_
  refine vm_r_aload_n rfl rfl rfl ?_
  refine vm_r_getR rfl (vs_T.rE hu.s) ?_
  refine vm_r_iconst (kI := nI 0) rfl ?_
  refine vm_r_aload_n rfl rfl rfl ?_
  refine vm_r_getR rfl (vs_T.rE h) ?_
  refine vm_r_iconst (kI := nI 0) rfl ?_
  refine vm_r_iconst (kI := nI 5) rfl ?_
  refine vm_r_acopy rfl (Nat.le_of_ble_eq_true rfl) (by omega) (by omega) (by omega) (vs_T.sE hu.s) (vs_T.sE h) ?_
  refine vm_r_aload_n rfl rfl rfl ?_
  refine vm_r_getR rfl (vs_T.rA hu.s) ?_
  refine vm_r_iconst (kI := nI 0) rfl ?_
  refine vm_r_aload_n rfl rfl rfl ?_
  refine vm_r_getR rfl (vs_T.rA h) ?_
  refine vm_r_iconst (kI := nI 0) rfl ?_
  refine vm_r_iconst (kI := nI 5) rfl ?_
  refine vm_r_acopy rfl (Nat.le_of_ble_eq_true rfl) (by omega) (by omega) (by omega) (vs_T.sA hu.s) (vs_T.sA h) ?_
  refine vm_r_aload_n rfl rfl rfl ?_
  refine vm_r_getR rfl (vs_T.rB hu.s) ?_
  refine vm_r_iconst (kI := nI 0) rfl ?_
  refine vm_r_aload_n rfl rfl rfl ?_
  refine vm_r_getR rfl (vs_T.rB h) ?_
  refine vm_r_iconst (kI := nI 0) rfl ?_
  refine vm_r_bipush (kI := nI 6) rfl ?_
  refine vm_r_acopy rfl (Nat.le_of_ble_eq_true rfl) (by omega) (by omega) (by omega) (vs_T.sB hu.s) (vs_T.sB h) ?_
  refine vm_r_aload_n rfl rfl rfl ?_
  refine vm_r_getR rfl (vs_T.rH hu.s) ?_
  refine vm_r_iconst (kI := nI 0) rfl ?_
  refine vm_r_aload_n rfl rfl rfl ?_
  refine vm_r_getR rfl (vs_T.rH h) ?_
  refine vm_r_iconst (kI := nI 0) rfl ?_
  refine vm_r_bipush (kI := nI 6) rfl ?_
  refine vm_r_acopy rfl (Nat.le_of_ble_eq_true rfl) (by omega) (by omega) (by omega) (vs_T.sH hu.s) (vs_T.sH h) ?_
  refine vm_r_aload_n rfl rfl rfl ?_
  refine vm_r_aload_n rfl rfl rfl ?_
  refine vm_r_getI rfl (⟨_, hu.s.1, rfl, by simp (disch := omega) only [cp_no]; exact k5⟩) ?_
  refine vm_r_putI rfl (vs_T.wG h) ?_
  refine vm_r_aload_n rfl rfl rfl ?_
  refine vm_r_aload_n rfl rfl rfl ?_
  refine vm_r_getI rfl (⟨_, hu.s.1, rfl, by simp (disch := omega) only [cp_no, rI_no]; exact k6⟩) ?_
  refine vm_r_putI rfl (vs_T.wP h) ?_
  refine vm_r_aload_n rfl rfl rfl ?_
  refine vm_r_aload_n rfl rfl rfl ?_
  refine vm_r_getI rfl (⟨_, hu.s.1, rfl, by simp (disch := omega) only [cp_no, rI_no]; exact k7⟩) ?_
  refine vm_r_putI rfl (vs_T.wI h) ?_
  refine vm_r_aload_n rfl rfl rfl ?_
  refine vm_r_aload_n rfl rfl rfl ?_
  refine vm_r_getI rfl (⟨_, hu.s.1, rfl, by simp (disch := omega) only [cp_no, rI_no]; exact k8⟩) ?_
  refine vm_r_putI rfl (vs_T.wO h) ?_
  refine vm_r_vret rfl (⟨rfl, ?_, h, hu.ok, ?_⟩)
  · refine ⟨rfl, rfl, fun o ho => ?_⟩
    funext j
    simp (disch := omega) only [cp_no, rI_no]
  · refine vt_I.mk ?_ ?_ ?_ ?_ (fun g hg => ?_) (fun g hg => ?_) (fun g hg => ?_) (fun g hg => ?_) (fun g hg => ?_) <;> try simp (disch := omega) only [rI_eq, rI_no, rI_nk, cp_no, cp_in]
    · exact hu.vK hg
    · exact hu.vE hg
    · exact hu.vA hg
    · exact hu.vB hg
    · exact hu.vH hg
theorem c_TN_addGate {kd er s : Nat} (h : vt_C μ t T) (hd : kd < 4) (he : er ≤ 40) (hs : vok s) : vm_Ex E 1 n_TN_addGate [.ref t, .int (nI kd), .int (nI er), .int (nI s)] 0 0 μ (vm_PX (fun z μ' => z = vm_bi (tG T < 5) ∧ vf μ μ' t (t + 5) ∧ (tG T < 5 → vt_C μ' t (vaG T kd er s)) ∧ (¬ tG T < 5 → μ' = μ))) := by
  have hG := h.ok.G5
  have hgG := h.gG
  refine vm_start (D := 0) (by decide) rfl (Nat.le_of_ble_eq_true rfl) (k := k_TN_addGate) rfl (L := [.ref t, .int (nI kd), .int (nI er), .int (nI s)]) rfl ?_
  refine vm_r_aload_n rfl rfl rfl ?_
  refine vm_r_getI rfl (h.gG) ?_
  refine vm_r_iconst (kI := nI 5) rfl ?_
  first | refine vm_r_icmp_ltN rfl (by omega) (by omega) (fun e => ?_) (fun e => ?_) | refine vm_r_icmp_lt rfl (fun e => ?_) (fun e => ?_)
  · have hI : ∀ (μ1 : vm_M), μ1.1 = μ.1 → μ1.2.1 t 5 = nI (tG T) → vm_gI μ1 t 4 5 (nI (tG T)) := fun μ1 e1 e2 => ⟨_, by rw [e1]; exact h.s.1, rfl, e2⟩
    refine vm_r_aload_n rfl rfl rfl ?_
    refine vm_r_getR rfl (vs_T.rK h.s) ?_
    refine vm_r_aload_n rfl rfl rfl ?_
    refine vm_r_getI rfl (h.gG) ?_
    refine vm_r_iload_n rfl rfl rfl ?_
    refine vm_r_iastore rfl (vs_T.sK h.s) (by omega) (by omega) ?_
    refine vm_r_aload_n rfl rfl rfl ?_
    refine vm_r_getR rfl (vs_T.rE h.s) ?_
    refine vm_r_aload_n rfl rfl rfl ?_
    refine vm_r_getI rfl (hI _ rfl (by simp (disch := omega) only [rI_no]; exact h.2.2.1)) ?_
    refine vm_r_iload_n rfl rfl rfl ?_
    refine vm_r_iastore rfl (vs_T.sE h.s) (by omega) (by omega) ?_
    refine vm_r_aload_n rfl rfl rfl ?_
    refine vm_r_getR rfl (vs_T.rA h.s) ?_
    refine vm_r_aload_n rfl rfl rfl ?_
    refine vm_r_getI rfl (hI _ rfl (by simp (disch := omega) only [rI_no]; exact h.2.2.1)) ?_
    refine vm_r_iload_n rfl rfl rfl ?_
    refine vm_r_iastore rfl (vs_T.sA h.s) (by omega) (by omega) ?_
    refine vm_r_aload_n rfl rfl rfl ?_
    refine vm_r_dup rfl rfl ?_
    refine vm_r_getI rfl (hI _ rfl (by simp (disch := omega) only [rI_no]; exact h.2.2.1)) ?_
    refine vm_r_iconst (kI := nI 1) rfl ?_
    first | refine vm_r_iaddN rfl ?_ | refine vm_r_iadd rfl ?_
    refine vm_r_putI rfl (vs_T.wG h.s) ?_
    refine vm_r_iconst (kI := nI 1) rfl ?_
    refine vm_r_ret rfl (fun _ => by first | exact vm_bi_01 _ | decide) (⟨_, rfl, (vm_bi_t e).symm, ?_, fun _ => ⟨h.s, vaG_ok h.ok e hd he hs, ?_⟩, fun z => absurd e z⟩)
    · refine ⟨rfl, rfl, fun o ho => ?_⟩
      funext j
      simp (disch := omega) only [rI_no]
    · refine vt_I.mk ?_ ?_ ?_ ?_ (fun g hg => ?_) (fun g hg => ?_) (fun g hg => ?_) (fun g hg => ?_) (fun g hg => ?_) <;> try simp (disch := omega) only [rI_eq, rI_no, rI_nk]
      · rfl
      · exact h.2.2.2.1
      · exact h.2.2.2.2.1
      · exact h.2.2.2.2.2.1
      · exact rI_u rfl fun z => h.vK (by have : g < tG T + 1 := hg; omega)
      · exact (rI_u rfl fun z => by simp (disch := omega) only [rI_no]; exact h.vE (by have : g < tG T + 1 := hg; omega))
      · exact (rI_u rfl fun z => by simp (disch := omega) only [rI_no]; exact h.vA (by have : g < tG T + 1 := hg; omega))
      · exact h.vB hg
      · exact h.vH hg
  · refine vm_r_iconst (kI := nI 0) rfl ?_
    refine vm_r_ret rfl (fun _ => by first | exact vm_bi_01 _ | decide) (⟨_, rfl, (vm_bi_f (by omega)).symm, vf.rf, fun z => absurd z (by omega), fun _ => rfl⟩)
theorem c_TN_addPerson {s : Nat} (h : vt_C μ t T) (hs : vok s) : vm_Ex E 1 n_TN_addPerson [.ref t, .int (nI s)] 0 0 μ (vm_PX (fun z μ' => z = vm_bi (tP T < 6) ∧ vf μ μ' t (t + 5) ∧ (tP T < 6 → vt_C μ' t (vaP T s)) ∧ (¬ tP T < 6 → μ' = μ))) := by
  have hP := h.ok.P6
  refine vm_start (D := 0) (by decide) rfl (Nat.le_of_ble_eq_true rfl) (k := k_TN_addPerson) rfl (L := [.ref t, .int (nI s)]) rfl ?_
  refine vm_r_aload_n rfl rfl rfl ?_
  refine vm_r_getI rfl (h.gP) ?_
  refine vm_r_bipush (kI := nI 6) rfl ?_
  first | refine vm_r_icmp_ltN rfl (by omega) (by omega) (fun e => ?_) (fun e => ?_) | refine vm_r_icmp_lt rfl (fun e => ?_) (fun e => ?_)
  · have hI : ∀ (μ1 : vm_M), μ1.1 = μ.1 → μ1.2.1 t 6 = nI (tP T) → vm_gI μ1 t 4 6 (nI (tP T)) := fun μ1 e1 e2 => ⟨_, by rw [e1]; exact h.s.1, rfl, e2⟩
    refine vm_r_aload_n rfl rfl rfl ?_
    refine vm_r_getR rfl (vs_T.rB h.s) ?_
    refine vm_r_aload_n rfl rfl rfl ?_
    refine vm_r_getI rfl (h.gP) ?_
    refine vm_r_iload_n rfl rfl rfl ?_
    refine vm_r_iastore rfl (vs_T.sB h.s) (by omega) (by omega) ?_
    refine vm_r_aload_n rfl rfl rfl ?_
    refine vm_r_getR rfl (vs_T.rH h.s) ?_
    refine vm_r_aload_n rfl rfl rfl ?_
    refine vm_r_getI rfl (hI _ rfl (by simp (disch := omega) only [rI_no]; exact h.2.2.2.1)) ?_
    refine vm_r_bipush rfl ?_
    refine vm_r_iastore rfl (vs_T.sH h.s) (by omega) (by omega) ?_
    refine vm_r_aload_n rfl rfl rfl ?_
    refine vm_r_dup rfl rfl ?_
    refine vm_r_getI rfl (hI _ rfl (by simp (disch := omega) only [rI_no]; exact h.2.2.2.1)) ?_
    refine vm_r_iconst (kI := nI 1) rfl ?_
    first | refine vm_r_iaddN rfl ?_ | refine vm_r_iadd rfl ?_
    refine vm_r_putI rfl (vs_T.wP h.s) ?_
    refine vm_r_iconst (kI := nI 1) rfl ?_
    refine vm_r_ret rfl (fun _ => by first | exact vm_bi_01 _ | decide) (⟨_, rfl, (vm_bi_t e).symm, ?_, fun _ => ⟨h.s, vaP_ok h.ok e hs, ?_⟩, fun z => absurd e z⟩)
    · refine ⟨rfl, rfl, fun o ho => ?_⟩
      funext j
      simp (disch := omega) only [rI_no]
    · refine vt_I.mk ?_ ?_ ?_ ?_ (fun g hg => ?_) (fun g hg => ?_) (fun g hg => ?_) (fun g hg => ?_) (fun g hg => ?_) <;> try simp (disch := omega) only [rI_eq, rI_no, rI_nk]
      · exact h.2.2.1
      · rfl
      · exact h.2.2.2.2.1
      · exact h.2.2.2.2.2.1
      · exact h.vK hg
      · exact h.vE hg
      · exact h.vA hg
      · exact (rI_u rfl fun z => h.vB (by have : g < tP T + 1 := hg; omega))
      · exact (rI_u' fun z => by simp (disch := omega) only [rI_no]; exact h.vH (by have : g < tP T + 1 := hg; omega))
  · refine vm_r_iconst (kI := nI 0) rfl ?_
    refine vm_r_ret rfl (fun _ => by first | exact vm_bi_01 _ | decide) (⟨_, rfl, (vm_bi_f (by omega)).symm, vf.rf, fun z => absurd z (by omega), fun _ => rfl⟩)
theorem c_TN_visit (h : vt_C μ t T) (hp : p < tP T) (hg : g < tG T) : vm_Ex E 5 n_TN_visit [.ref t, .int (nI p), .int (nI g)] 0 0 μ (vm_PX (fun z μ' => z = vm_bi (vadm T (tB T p) g) ∧ vf μ μ' t (t + 5) ∧ vt_C μ' t (vvis T p g))) := by
  have hG := h.ok.G5
  have hP := h.ok.P6
  have hA := h.ok.A hg
  have hB := h.ok.B hp
  have hAl := hA.1
  have hBl := hB.1
  refine vm_start (D := 4) (by decide) rfl (Nat.le_of_ble_eq_true rfl) (k := k_TN_visit) rfl (L := [.ref t, .int (nI p), .int (nI g), .retAddr 0, .retAddr 0]) rfl ?_
  refine vm_r_aload_n rfl rfl rfl ?_
  refine vm_r_getR rfl (h.s.rB) ?_
  refine vm_r_iload_n rfl rfl rfl ?_
  refine vm_r_iaload rfl (h.s.sB) (by omega) (by omega) (h.vB hp) ?_
  refine vm_r_istore_n3 rfl rfl rfl ?_
  refine vm_r_aload_n rfl rfl rfl ?_
  refine vm_r_getR rfl (h.s.rA) ?_
  refine vm_r_iload_n rfl rfl rfl ?_
  refine vm_r_iaload rfl (h.s.sA) (by omega) (by omega) (h.vA hg) ?_
  refine vm_r_istore4 rfl rfl ?_
  refine vm_r_aload_n rfl rfl rfl ?_
  refine vm_r_iload_n rfl rfl rfl ?_
  refine vm_r_iload_n rfl rfl rfl ?_
  refine vm_r_cv3I rfl (by decide) (h.s.ob) (Nat.le_of_ble_eq_true rfl) (vm_Ex_le (Nat.le_of_ble_eq_true rfl) (c_TN_admits h hB hg)) ?_
  first | refine vm_r_if_neB rfl (fun e => ?_) (fun e => ?_) | refine vm_r_if_neN rfl (by omega) (fun e => ?_) (fun e => ?_) | refine vm_r_if_ne rfl (fun e => ?_) (fun e => ?_)
  · refine vm_r_aload_n rfl rfl rfl ?_
    refine vm_r_dup rfl rfl ?_
    refine vm_r_getI rfl (h.gI) ?_
    refine vm_r_iconst (kI := nI 1) rfl ?_
    refine vm_r_iadd rfl ?_
    refine vm_r_putI rfl (vs_T.wI h.s) ?_
    refine vm_r_aload_n rfl rfl rfl ?_
    refine vm_r_getR rfl (vs_T.rH h.s) ?_
    refine vm_r_iload_n rfl rfl rfl ?_
    refine vm_r_iload_n rfl rfl rfl ?_
    refine vm_r_iastore rfl (vs_T.sH h.s) (by omega) (by omega) ?_
    refine vm_r_aload_n rfl rfl rfl ?_
    refine vm_r_getR rfl (vs_T.rA h.s) ?_
    refine vm_r_iload_n rfl rfl rfl ?_
    refine vm_r_iload rfl rfl ?_
    refine vm_r_iload_n rfl rfl rfl ?_
    refine vm_r_iload rfl rfl ?_
    refine vm_r_iload_n rfl rfl rfl ?_
    refine vm_r_cs2I rfl (by decide) (Nat.le_of_ble_eq_true rfl) (vm_Ex_le (Nat.le_of_ble_eq_true rfl) (c_SY_widestDifference (by omega) (by omega))) ?_
    refine vm_r_cs3I rfl (by decide) (Nat.le_of_ble_eq_true rfl) (vm_Ex_le (Nat.le_of_ble_eq_true rfl) (c_SY_nearer hA hB)) ?_
    refine vm_r_iastore rfl (vs_T.sA h.s) (by omega) (by omega) ?_
    refine vm_r_aload_n rfl rfl rfl ?_
    refine vm_r_getR rfl (vs_T.rB h.s) ?_
    refine vm_r_iload_n rfl rfl rfl ?_
    refine vm_r_iload_n rfl rfl rfl ?_
    refine vm_r_iload rfl rfl ?_
    refine vm_r_iload_n rfl rfl rfl ?_
    refine vm_r_iload rfl rfl ?_
    refine vm_r_cs2I rfl (by decide) (Nat.le_of_ble_eq_true rfl) (vm_Ex_le (Nat.le_of_ble_eq_true rfl) (c_SY_firstDifference (by omega) (by omega))) ?_
    refine vm_r_cs3I rfl (by decide) (Nat.le_of_ble_eq_true rfl) (vm_Ex_le (Nat.le_of_ble_eq_true rfl) (c_SY_nearer hB hA)) ?_
    refine vm_r_iastore rfl (vs_T.sB h.s) (by omega) (by omega) ?_
    refine vm_r_iconst (kI := nI 1) rfl ?_
    refine vm_r_ret rfl (fun _ => by first | exact vm_bi_01 _ | decide) (⟨_, rfl, (vm_bi_t e).symm, ?_, ?_⟩)
    · refine ⟨rfl, rfl, fun o ho => ?_⟩
      funext j
      simp (disch := omega) only [rI_no]
    · unfold vvis
      rw [if_pos e]
      refine ⟨h.s, vvis1_ok h.ok hp hg, ?_⟩
      refine vt_I.mk ?_ ?_ ?_ ?_ (fun g hg => ?_) (fun g hg => ?_) (fun g hg => ?_) (fun g hg => ?_) (fun g hg => ?_) <;> try simp (disch := omega) only [rI_eq, rI_no, rI_nk]
      · exact h.2.2.1
      · exact h.2.2.2.1
      · rfl
      · exact h.2.2.2.2.2.1
      · exact h.vK hg
      · exact h.vE hg
      · exact (rI_u rfl fun z => by simp (disch := omega) only [rI_no]; exact h.vA hg)
      · exact (rI_u rfl fun z => by simp (disch := omega) only [rI_no]; exact h.vB hg)
      · exact (rI_u' fun z => by simp (disch := omega) only [rI_no]; exact h.vH hg)
  · refine vm_r_aload_n rfl rfl rfl ?_
    refine vm_r_dup rfl rfl ?_
    refine vm_r_getI rfl (h.gO) ?_
    refine vm_r_iconst (kI := nI 1) rfl ?_
    refine vm_r_iadd rfl ?_
    refine vm_r_putI rfl (vs_T.wO h.s) ?_
    refine vm_r_iconst (kI := nI 0) rfl ?_
    refine vm_r_ret rfl (fun _ => by first | exact vm_bi_01 _ | decide) (⟨_, rfl, (vm_bi_f e).symm, (vf.mI (by omega) (by omega)), ?_⟩)
    unfold vvis
    rw [if_neg e]
    refine ⟨h.s, h.ok, ?_⟩
    refine vt_I.mk ?_ ?_ ?_ ?_ (fun g hg => ?_) (fun g hg => ?_) (fun g hg => ?_) (fun g hg => ?_) (fun g hg => ?_) <;> try simp (disch := omega) only [rI_eq, rI_no, rI_nk]
    · exact h.2.2.1
    · exact h.2.2.2.1
    · exact h.2.2.2.2.1
    · rfl
    · exact h.vK hg
    · exact h.vE hg
    · exact h.vA hg
    · exact h.vB hg
    · exact h.vH hg
/-- one person's saying is written -/
theorem vt_C.setB {μ' : vm_M} {x : Nat} (h : vt_C μ t T) (hx : vok x) (hm : μ' = vm_mI μ (t + 4) p (nI x)) : vt_C μ' t (T.1, tK T, tE T, tA T, vu (tB T) p x, tH T, tI T, tO T) ∧ vf μ μ' t (t + 5) := by
  subst hm
  refine ⟨⟨h.s, ⟨h.ok.1, h.ok.2.1, h.ok.2.2.1, vu_all (P := vok) (fun j hj => h.ok.B hj) hx⟩, ?_⟩, vf.mI (by omega) (by omega)⟩
  refine vt_I.mk ?_ ?_ ?_ ?_ (fun g hg => ?_) (fun g hg => ?_) (fun g hg => ?_) (fun g hg => ?_) (fun g hg => ?_) <;> try simp (disch := omega) only [rI_no]
  · exact h.2.2.1
  · exact h.2.2.2.1
  · exact h.2.2.2.2.1
  · exact h.2.2.2.2.2.1
  · exact h.vK hg
  · exact h.vE hg
  · exact h.vA hg
  · exact rI_u rfl fun z => h.vB hg
  · exact h.vH hg
theorem vt_C.setA {μ' : vm_M} {x : Nat} (h : vt_C μ t T) (hx : vok x) (hm : μ' = vm_mI μ (t + 3) g (nI x)) : vt_C μ' t (T.1, tK T, tE T, vu (tA T) g x, tB T, tH T, tI T, tO T) ∧ vf μ μ' t (t + 5) := by
  subst hm
  refine ⟨⟨h.s, ⟨h.ok.1, h.ok.2.1, fun j hj => ⟨h.ok.K4 hj, h.ok.E40 hj, vu_all (P := vok) (fun j hj => h.ok.A hj) hx j hj⟩, h.ok.2.2.2⟩, ?_⟩, vf.mI (by omega) (by omega)⟩
  refine vt_I.mk ?_ ?_ ?_ ?_ (fun g hg => ?_) (fun g hg => ?_) (fun g hg => ?_) (fun g hg => ?_) (fun g hg => ?_) <;> try simp (disch := omega) only [rI_no]
  · exact h.2.2.1
  · exact h.2.2.2.1
  · exact h.2.2.2.2.1
  · exact h.2.2.2.2.2.1
  · exact h.vK hg
  · exact h.vE hg
  · exact rI_u rfl fun z => h.vA hg
  · exact h.vB hg
  · exact h.vH hg
theorem c_TN_converse (h : vt_C μ t T) (hp : p < tP T) (hq : q < tP T) : vm_Ex E 4 n_TN_converse [.ref t, .int (nI p), .int (nI q)] 0 0 μ (vm_PV (fun μ' => vf μ μ' t (t + 5) ∧ vt_C μ' t (vcon T p q))) := by
  have hP := h.ok.P6
  have hA := h.ok.B hq
  have hB := h.ok.B hp
  have hAl := hA.1
  have hBl := hB.1
  refine vm_start (D := 3) (by decide) rfl (Nat.le_of_ble_eq_true rfl) (k := k_TN_converse) rfl (L := [.ref t, .int (nI p), .int (nI q), .retAddr 0, .retAddr 0]) rfl ?_
  refine vm_r_aload_n rfl rfl rfl ?_
  refine vm_r_getR rfl (h.s.rB) ?_
  refine vm_r_iload_n rfl rfl rfl ?_
  refine vm_r_iaload rfl (h.s.sB) (by omega) (by omega) (h.vB hp) ?_
  refine vm_r_istore_n3 rfl rfl rfl ?_
  refine vm_r_aload_n rfl rfl rfl ?_
  refine vm_r_getR rfl (h.s.rB) ?_
  refine vm_r_iload_n rfl rfl rfl ?_
  refine vm_r_iaload rfl (h.s.sB) (by omega) (by omega) (h.vB hq) ?_
  refine vm_r_istore4 rfl rfl ?_
  refine vm_r_aload_n rfl rfl rfl ?_
  refine vm_r_getR rfl (h.s.rB) ?_
  refine vm_r_iload_n rfl rfl rfl ?_
  refine vm_r_iload_n rfl rfl rfl ?_
  refine vm_r_iload rfl rfl ?_
  refine vm_r_iload_n rfl rfl rfl ?_
  refine vm_r_iload rfl rfl ?_
  refine vm_r_cs2I rfl (by decide) (Nat.le_of_ble_eq_true rfl) (vm_Ex_le (Nat.le_of_ble_eq_true rfl) (c_SY_firstDifference (by omega) (by omega))) ?_
  refine vm_r_cs3I rfl (by decide) (Nat.le_of_ble_eq_true rfl) (vm_Ex_le (Nat.le_of_ble_eq_true rfl) (c_SY_nearer hB hA)) ?_
  refine vm_r_iastore rfl (h.s.sB) (by omega) (by omega) ?_
  refine vm_r_vret rfl (⟨rfl, (h.setB (vnr_ok hB hA) rfl).2, (h.setB (vnr_ok hB hA) rfl).1⟩)
end TOWN2
