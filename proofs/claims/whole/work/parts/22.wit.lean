/-! What was seen and heard; chances; draws. -/
/-- sights: how many, person, gate, in; hearings: how many, place, sound -/
abbrev vw_T : Type := Nat × (Nat → Nat) × (Nat → Nat) × (Nat → Nat) × Nat × (Nat → Nat) × (Nat → Nat)
def wN (W : vw_T) : Nat := W.1
def wP (W : vw_T) : Nat → Nat := W.2.1
def wG (W : vw_T) : Nat → Nat := W.2.2.1
def wI (W : vw_T) : Nat → Nat := W.2.2.2.1
def wM (W : vw_T) : Nat := W.2.2.2.2.1
def wK (W : vw_T) : Nat → Nat := W.2.2.2.2.2.1
def wS (W : vw_T) : Nat → Nat := W.2.2.2.2.2.2
def vwok (W : vw_T) : Prop := wN W ≤ 6 ∧ wM W ≤ 8 ∧ (∀ i, i < wN W → wP W i < 6 ∧ wG W i < 5 ∧ wI W i < 2) ∧ ∀ i, i < wM W → wK W i < 5 ∧ wS W i < 6
def vWs (sh : Nat → Option vm_Sh) (w : Nat) : Prop := sh w = some (.inl (5, [some (some (w + 1)), some (some (w + 2)), some (some (w + 3)), some (some (w + 4)), some (some (w + 5)), none, none])) ∧
  sh (w + 1) = some (.inr (0, 6)) ∧ sh (w + 2) = some (.inr (0, 6)) ∧ sh (w + 3) = some (.inr (2, 6)) ∧ sh (w + 4) = some (.inr (0, 8)) ∧ sh (w + 5) = some (.inr (0, 8))
def vWi (I : Nat → Nat → Int32) (w : Nat) (W : vw_T) : Prop := I w 5 = nI (wN W) ∧ I w 6 = nI (wM W) ∧ (∀ i, i < wN W → I (w + 1) i = nI (wP W i) ∧ I (w + 2) i = nI (wG W i) ∧ I (w + 3) i = nI (wI W i)) ∧ ∀ i, i < wM W → I (w + 4) i = nI (wK W i) ∧ I (w + 5) i = nI (wS W i)
def vW (μ : vm_M) (w : Nat) (W : vw_T) : Prop := vWs μ.1 w ∧ vwok W ∧ vWi μ.2.1 w W
theorem vW.keepx {μ μ' : vm_M} {w lo hi : Nat} {W : vw_T} (h : vW μ w W) (f : vx μ μ' lo hi) (hd : w + 5 < lo ∨ hi < w) : vW μ' w W := by
  have g : ∀ o, w ≤ o → o ≤ w + 5 → μ'.2.1 o = μ.2.1 o := fun o h1 h2 => (f.2.2 o (by omega)).1
  obtain ⟨h1, h2, h3, h4, h5, h6⟩ := h
  refine ⟨by rw [f.1]; exact h1, h2, by rw [g _ (by omega) (by omega)]; exact h3, by rw [g _ (by omega) (by omega)]; exact h4, fun i hi => ?_, fun i hi => ?_⟩
  · rw [g _ (by omega) (by omega), g _ (by omega) (by omega), g _ (by omega) (by omega)]
    exact h5 i hi
  · rw [g _ (by omega) (by omega), g _ (by omega) (by omega)]
    exact h6 i hi
def vw0 (W : vw_T) : vw_T := (0, wP W, wG W, wI W, 0, wK W, wS W)
def vwsee (W : vw_T) (p g i : Nat) : vw_T := (wN W + 1, vu (wP W) (wN W) p, vu (wG W) (wN W) g, vu (wI W) (wN W) i, wM W, wK W, wS W)
def vwhea (W : vw_T) (k s : Nat) : vw_T := (wN W, wP W, wG W, wI W, wM W + 1, vu (wK W) (wM W) k, vu (wS W) (wM W) s)
/-- whether the first n sights would be so, had the gate this kind and this ear -/
def vfit (W : vw_T) (T : vt_T) (g kd er : Nat) : Nat → Bool
  | 0 => true
  | n + 1 => vfit W T g kd er n && (decide (wG W n ≠ g) || (decide (vdn kd (tB T (wP W n)) (tA T g) 5 ≤ er) == decide (wI W n = 1)))
def vmis (W : vw_T) (c n : Nat) : Nat := fb_ct (fun i => decide (vd c (wK W i) ≠ wS W i)) n
theorem vmis_s (W : vw_T) (c n : Nat) : vmis W c (n + 1) = vmis W c n + if decide (vd c (wK W n) ≠ wS W n) = true then 1 else 0 := rfl
theorem vmis_le (W : vw_T) (c n : Nat) : vmis W c n ≤ n := fb_ct_le _ n
theorem vw_see_ok {W : vw_T} {p g i : Nat} (h : vwok W) (hn : wN W < 6) (hp : p < 6) (hg : g < 5) (hi : i < 2) : vwok (vwsee W p g i) := by
  refine ⟨by show wN W + 1 ≤ 6; omega, h.2.1, fun j hj => ?_, h.2.2.2⟩
  have hj : j < wN W + 1 := hj
  show vu (wP W) (wN W) p j < 6 ∧ vu (wG W) (wN W) g j < 5 ∧ vu (wI W) (wN W) i j < 2
  by_cases e : j = wN W
  · subst e
    rw [vu_eq, vu_eq, vu_eq]
    exact ⟨hp, hg, hi⟩
  · rw [vu_ne e, vu_ne e, vu_ne e]
    exact h.2.2.1 j (by omega)
theorem vw_hea_ok {W : vw_T} {k s : Nat} (h : vwok W) (hn : wM W < 8) (hk : k < 5) (hs : s < 6) : vwok (vwhea W k s) := by
  refine ⟨h.1, by show wM W + 1 ≤ 8; omega, h.2.2.1, fun j hj => ?_⟩
  have hj : j < wM W + 1 := hj
  show vu (wK W) (wM W) k j < 5 ∧ vu (wS W) (wM W) s j < 6
  by_cases e : j = wM W
  · subst e
    rw [vu_eq, vu_eq]
    exact ⟨hk, hs⟩
  · rw [vu_ne e, vu_ne e]
    exact h.2.2.2 j (by omega)
def vch (m x : Nat) : Nat → Nat
  | 0 => 1
  | n + 1 => vch m x n * (if m / 2 ^ n % 2 = 1 then x else 10 - x)
theorem vch_le {m x : Nat} (hx : x ≤ 10) : ∀ n, vch m x n ≤ 10 ^ n
  | 0 => Nat.le_refl _
  | n + 1 => by
    have h := vch_le (m := m) hx n
    show vch m x n * _ ≤ 10 ^ n * 10
    refine Nat.mul_le_mul h ?_
    split <;> omega
theorem vch_all : ∀ x, x < 11 → fb_sm (fun m => vch m x 5) 32 = 100000 := by decide +kernel
def veu : Nat → Nat → Nat → Nat
  | 0, g, _ => g
  | f + 1, g, l => if l = 0 then g else veu f l (g % l)
theorem veu_s (f g l : Nat) : veu (f + 1) g l = if l = 0 then g else veu f l (g % l) := rfl
theorem v_gcd (g l : Nat) (h : ¬ l = 0) : Nat.gcd l (g % l) = Nat.gcd g l := by
  rw [Nat.gcd_comm g l, Nat.gcd_rec l g, Nat.gcd_comm]
theorem veu_gcd : ∀ (j f g l : Nat), l < 2 ^ j → 2 * j ≤ f → veu f g l = Nat.gcd g l
  | 0, f, g, l, hl, _ => by
    obtain rfl : l = 0 := by
      have : l < 1 := hl
      omega
    cases f with
    | zero => exact (Nat.gcd_zero_right g).symm
    | succ f => exact (Nat.gcd_zero_right g).symm
  | j + 1, f, g, l, hl, hf => by
    obtain ⟨f2, rfl⟩ : ∃ f2, f = f2 + 1 + 1 := ⟨f - 2, by omega⟩
    rw [veu_s]
    by_cases h : l = 0
    · rw [if_pos h, h]
      exact (Nat.gcd_zero_right g).symm
    · rw [if_neg h, veu_s]
      have hr : g % l < l := Nat.mod_lt _ (by omega)
      by_cases h2 : g % l = 0
      · rw [if_pos h2, ← v_gcd g l h, h2]
        exact (Nat.gcd_zero_right l).symm
      · rw [if_neg h2, ← v_gcd g l h, ← v_gcd l (g % l) h2]
        refine veu_gcd j f2 _ _ ?_ (by omega)
        have h3 : l % (g % l) < g % l := Nat.mod_lt _ (by omega)
        have h4 := Nat.div_add_mod l (g % l)
        have h5 : 0 < l / (g % l) := Nat.div_pos (by omega) (by omega)
        have h6 : g % l * 1 ≤ g % l * (l / (g % l)) := Nat.mul_le_mul_left _ h5
        have h7 : l < 2 * 2 ^ j := by rw [Nat.pow_succ] at hl; omega
        omega
def vdr (z n : Nat) : Nat := (7919 * z + 6151 * n + 1) * (7919 * z + 6151 * n + 1) % 65521 / 2
theorem l_add (a b : Nat) : lN a + lN b = lN (a + b) := (Int64.ofNat_add a b).symm
theorem l_mul (a b : Nat) : lN a * lN b = lN (a * b) := (Int64.ofNat_mul a b).symm
theorem l_i (a : Nat) : (lN a).toInt32 = nI a := by
  apply Int32.toBitVec_inj.mp
  show BitVec.signExtend 32 (BitVec.ofNat 64 a) = BitVec.ofNat 32 a
  apply BitVec.eq_of_toNat_eq
  rw [BitVec.signExtend_eq_setWidth_of_le _ (by decide)]
  simp only [BitVec.toNat_setWidth, BitVec.toNat_ofNat]
  omega
section WIT
variable {E : vm_V} {μ : vm_M} {w t : Nat} {W : vw_T} {T : vt_T}
theorem vW.r0 (h : vW μ w W) : vm_gR μ w 5 0 (w + 1) := ⟨_, h.1.1, rfl⟩
theorem vW.r1 (h : vW μ w W) : vm_gR μ w 5 1 (w + 2) := ⟨_, h.1.1, rfl⟩
theorem vW.r2 (h : vW μ w W) : vm_gR μ w 5 2 (w + 3) := ⟨_, h.1.1, rfl⟩
theorem vW.r3 (h : vW μ w W) : vm_gR μ w 5 3 (w + 4) := ⟨_, h.1.1, rfl⟩
theorem vW.r4 (h : vW μ w W) : vm_gR μ w 5 4 (w + 5) := ⟨_, h.1.1, rfl⟩
theorem vW.gN (h : vW μ w W) : vm_gI μ w 5 5 (nI (wN W)) := ⟨_, h.1.1, rfl, h.2.2.1⟩
theorem vW.gM (h : vW μ w W) : vm_gI μ w 5 6 (nI (wM W)) := ⟨_, h.1.1, rfl, h.2.2.2.1⟩
theorem vW.wrN (h : vW μ w W) : vm_gW μ w 5 5 := ⟨_, h.1.1, rfl⟩
theorem vW.wrM (h : vW μ w W) : vm_gW μ w 5 6 := ⟨_, h.1.1, rfl⟩
theorem vW.ob (h : vW μ w W) : vm_ob μ w 5 := ⟨_, h.1.1⟩
theorem vW.ok (h : vW μ w W) : vwok W := h.2.1
theorem vW.vP {i : Nat} (h : vW μ w W) (hi : i < wN W) : μ.2.1 (w + 1) i = nI (wP W i) := (h.2.2.2.2.1 i hi).1
theorem vW.vG {i : Nat} (h : vW μ w W) (hi : i < wN W) : μ.2.1 (w + 2) i = nI (wG W i) := (h.2.2.2.2.1 i hi).2.1
theorem vW.vI {i : Nat} (h : vW μ w W) (hi : i < wN W) : μ.2.1 (w + 3) i = nI (wI W i) := (h.2.2.2.2.1 i hi).2.2
theorem vW.vK {i : Nat} (h : vW μ w W) (hi : i < wM W) : μ.2.1 (w + 4) i = nI (wK W i) := (h.2.2.2.2.2 i hi).1
theorem vW.vS {i : Nat} (h : vW μ w W) (hi : i < wM W) : μ.2.1 (w + 5) i = nI (wS W i) := (h.2.2.2.2.2 i hi).2
theorem vWi.mk {I : Nat → Nat → Int32} {w : Nat} {W : vw_T} (h5 : I w 5 = nI (wN W)) (h6 : I w 6 = nI (wM W)) (hP : ∀ i, i < wN W → I (w + 1) i = nI (wP W i)) (hG : ∀ i, i < wN W → I (w + 2) i = nI (wG W i)) (hI : ∀ i, i < wN W → I (w + 3) i = nI (wI W i)) (hK : ∀ i, i < wM W → I (w + 4) i = nI (wK W i)) (hS : ∀ i, i < wM W → I (w + 5) i = nI (wS W i)) : vWi I w W :=
  ⟨h5, h6, fun i hi => ⟨hP i hi, hG i hi, hI i hi⟩, fun i hi => ⟨hK i hi, hS i hi⟩⟩
theorem c_WI_clear (h : vW μ w W) : vm_Ex E 1 n_WI_clear [.ref w] 0 0 μ (vm_PV (fun μ' => vf μ μ' w w ∧ vW μ' w (vw0 W))) := by
  refine vm_start (D := 0) (by decide) rfl (Nat.le_of_ble_eq_true rfl) (k := k_WI_clear) rfl (L := [.ref w]) rfl ?_
  refine vm_r_aload_n rfl rfl rfl ?_
  refine vm_r_iconst (kI := nI 0) rfl ?_
  refine vm_r_putI rfl (h.wrN) ?_
  refine vm_r_aload_n rfl rfl rfl ?_
  refine vm_r_iconst (kI := nI 0) rfl ?_
  refine vm_r_putI rfl (h.wrM) ?_
  refine vm_r_vret rfl (⟨rfl, (vf.mI (Nat.le_refl w) (Nat.le_refl w)).tr (vf.mI (Nat.le_refl w) (Nat.le_refl w)), h.1, ⟨Nat.zero_le _, Nat.zero_le _, fun i hi => absurd hi (Nat.not_lt_zero i), fun i hi => absurd hi (Nat.not_lt_zero i)⟩, ?_⟩)
  refine vWi.mk ?_ ?_ (fun i hi => absurd hi (Nat.not_lt_zero i)) (fun i hi => absurd hi (Nat.not_lt_zero i)) (fun i hi => absurd hi (Nat.not_lt_zero i)) (fun i hi => absurd hi (Nat.not_lt_zero i)) (fun i hi => absurd hi (Nat.not_lt_zero i)) <;> try simp (disch := omega) only [rI_eq, rI_no, rI_nk] <;> rfl
theorem v_bool {i : Nat} (h : i < 2) : vp_nar .boolean (nI i) = nI i := by
  rcases (by omega : i = 0 ∨ i = 1) with rfl | rfl <;> decide
theorem c_WI_noteSeen {p g i : Nat} (h : vW μ w W) (hp : p < 6) (hg : g < 5) (hi : i < 2) : vm_Ex E 1 n_WI_noteSeen [.ref w, .int (nI p), .int (nI g), .int (nI i)] 0 0 μ (vm_PX (fun z μ' => z = vm_bi (wN W < 6) ∧ vf μ μ' w (w + 5) ∧ (wN W < 6 → vW μ' w (vwsee W p g i)) ∧ (¬ wN W < 6 → μ' = μ))) := by
  have hN := h.ok.1
  refine vm_start (D := 0) (by decide) rfl (Nat.le_of_ble_eq_true rfl) (k := k_WI_noteSeen) rfl (L := [.ref w, .int (nI p), .int (nI g), .int (nI i)]) rfl ?_
  refine vm_r_aload_n rfl rfl rfl ?_
  refine vm_r_getI rfl (h.gN) ?_
  refine vm_r_bipush (kI := nI 6) rfl ?_
  first | refine vm_r_icmp_ltN rfl (by omega) (by omega) (fun e => ?_) (fun e => ?_) | refine vm_r_icmp_lt rfl (fun e => ?_) (fun e => ?_)
  · have gI : ∀ μ1 : vm_M, μ1.1 = μ.1 → μ1.2.1 w 5 = nI (wN W) → vm_gI μ1 w 5 5 (nI (wN W)) := fun μ1 e1 e2 => ⟨_, by rw [e1]; exact h.1.1, rfl, e2⟩
    refine vm_r_aload_n rfl rfl rfl ?_
    refine vm_r_getR rfl (h.r0) ?_
    refine vm_r_aload_n rfl rfl rfl ?_
    refine vm_r_getI rfl (h.gN) ?_
    refine vm_r_iload_n rfl rfl rfl ?_
    refine vm_r_iastore rfl (h.1.2.1) (by omega) (by omega) ?_
    refine vm_r_aload_n rfl rfl rfl ?_
    refine vm_r_getR rfl (h.r1) ?_
    refine vm_r_aload_n rfl rfl rfl ?_
    refine vm_r_getI rfl (gI _ rfl (by simp (disch := omega) only [rI_no]; exact h.2.2.1)) ?_
    refine vm_r_iload_n rfl rfl rfl ?_
    refine vm_r_iastore rfl (h.1.2.2.1) (by omega) (by omega) ?_
    refine vm_r_aload_n rfl rfl rfl ?_
    refine vm_r_getR rfl (h.r2) ?_
    refine vm_r_aload_n rfl rfl rfl ?_
    refine vm_r_getI rfl (gI _ rfl (by simp (disch := omega) only [rI_no]; exact h.2.2.1)) ?_
    refine vm_r_iload_n rfl rfl rfl ?_
    refine vm_r_bastore rfl (h.1.2.2.2.1) (by omega) (by omega) (v_bool hi) ?_
    refine vm_r_aload_n rfl rfl rfl ?_
    refine vm_r_dup rfl rfl ?_
    refine vm_r_getI rfl (gI _ rfl (by simp (disch := omega) only [rI_no]; exact h.2.2.1)) ?_
    refine vm_r_iconst (kI := nI 1) rfl ?_
    first | refine vm_r_iaddN rfl ?_ | refine vm_r_iadd rfl ?_
    refine vm_r_putI rfl (h.wrN) ?_
    refine vm_r_iconst (kI := nI 1) rfl ?_
    refine vm_r_ret rfl (fun _ => by first | exact vm_bi_01 _ | decide) (⟨_, rfl, (vm_bi_t e).symm, ?_, fun _ => ⟨h.1, vw_see_ok h.ok e hp hg hi, ?_⟩, fun z => absurd e z⟩)
    · refine ⟨rfl, rfl, fun o ho => ?_⟩
      funext j
      simp (disch := omega) only [rI_no]
    · refine vWi.mk ?_ ?_ (fun j hj => ?_) (fun j hj => ?_) (fun j hj => ?_) (fun j hj => ?_) (fun j hj => ?_) <;> try simp (disch := omega) only [rI_eq, rI_no, rI_nk]
      · rfl
      · exact h.2.2.2.1
      · exact rI_u rfl fun z => h.vP (by have : j < wN W + 1 := hj; omega)
      · exact (rI_u rfl fun z => by simp (disch := omega) only [rI_no]; exact h.vG (by have : j < wN W + 1 := hj; omega))
      · exact (rI_u rfl fun z => by simp (disch := omega) only [rI_no]; exact h.vI (by have : j < wN W + 1 := hj; omega))
      · exact h.vK hj
      · exact h.vS hj
  · refine vm_r_iconst (kI := nI 0) rfl ?_
    refine vm_r_ret rfl (fun _ => by first | exact vm_bi_01 _ | decide) (⟨_, rfl, (vm_bi_f (by omega)).symm, vf.rf, fun z => absurd z (by omega), fun _ => rfl⟩)
theorem c_WI_noteHeard {k s : Nat} (h : vW μ w W) (hk : k < 5) (hs : s < 6) : vm_Ex E 1 n_WI_noteHeard [.ref w, .int (nI k), .int (nI s)] 0 0 μ (vm_PX (fun z μ' => z = vm_bi (wM W < 8) ∧ vf μ μ' w (w + 5) ∧ (wM W < 8 → vW μ' w (vwhea W k s)) ∧ (¬ wM W < 8 → μ' = μ))) := by
  have hN := h.ok.2.1
  refine vm_start (D := 0) (by decide) rfl (Nat.le_of_ble_eq_true rfl) (k := k_WI_noteHeard) rfl (L := [.ref w, .int (nI k), .int (nI s)]) rfl ?_
  refine vm_r_aload_n rfl rfl rfl ?_
  refine vm_r_getI rfl (h.gM) ?_
  refine vm_r_bipush (kI := nI 8) rfl ?_
  first | refine vm_r_icmp_ltN rfl (by omega) (by omega) (fun e => ?_) (fun e => ?_) | refine vm_r_icmp_lt rfl (fun e => ?_) (fun e => ?_)
  · have gI : ∀ μ1 : vm_M, μ1.1 = μ.1 → μ1.2.1 w 6 = nI (wM W) → vm_gI μ1 w 5 6 (nI (wM W)) := fun μ1 e1 e2 => ⟨_, by rw [e1]; exact h.1.1, rfl, e2⟩
    refine vm_r_aload_n rfl rfl rfl ?_
    refine vm_r_getR rfl (h.r3) ?_
    refine vm_r_aload_n rfl rfl rfl ?_
    refine vm_r_getI rfl (h.gM) ?_
    refine vm_r_iload_n rfl rfl rfl ?_
    refine vm_r_iastore rfl (h.1.2.2.2.2.1) (by omega) (by omega) ?_
    refine vm_r_aload_n rfl rfl rfl ?_
    refine vm_r_getR rfl (h.r4) ?_
    refine vm_r_aload_n rfl rfl rfl ?_
    refine vm_r_getI rfl (gI _ rfl (by simp (disch := omega) only [rI_no]; exact h.2.2.2.1)) ?_
    refine vm_r_iload_n rfl rfl rfl ?_
    refine vm_r_iastore rfl (h.1.2.2.2.2.2) (by omega) (by omega) ?_
    refine vm_r_aload_n rfl rfl rfl ?_
    refine vm_r_dup rfl rfl ?_
    refine vm_r_getI rfl (gI _ rfl (by simp (disch := omega) only [rI_no]; exact h.2.2.2.1)) ?_
    refine vm_r_iconst (kI := nI 1) rfl ?_
    first | refine vm_r_iaddN rfl ?_ | refine vm_r_iadd rfl ?_
    refine vm_r_putI rfl (h.wrM) ?_
    refine vm_r_iconst (kI := nI 1) rfl ?_
    refine vm_r_ret rfl (fun _ => by first | exact vm_bi_01 _ | decide) (⟨_, rfl, (vm_bi_t e).symm, ?_, fun _ => ⟨h.1, vw_hea_ok h.ok e hk hs, ?_⟩, fun z => absurd e z⟩)
    · refine ⟨rfl, rfl, fun o ho => ?_⟩
      funext j
      simp (disch := omega) only [rI_no]
    · refine vWi.mk ?_ ?_ (fun j hj => ?_) (fun j hj => ?_) (fun j hj => ?_) (fun j hj => ?_) (fun j hj => ?_) <;> try simp (disch := omega) only [rI_eq, rI_no, rI_nk]
      · exact h.2.2.1
      · rfl
      · exact h.vP hj
      · exact h.vG hj
      · exact h.vI hj
      · exact (rI_u rfl fun z => h.vK (by have : j < wM W + 1 := hj; omega))
      · exact (rI_u rfl fun z => by simp (disch := omega) only [rI_no]; exact h.vS (by have : j < wM W + 1 := hj; omega))
  · refine vm_r_iconst (kI := nI 0) rfl ?_
    refine vm_r_ret rfl (fun _ => by first | exact vm_bi_01 _ | decide) (⟨_, rfl, (vm_bi_f (by omega)).symm, vf.rf, fun z => absurd z (by omega), fun _ => rfl⟩)
theorem vfit_end {g kd er n m : Nat} (h : vfit W T g kd er n = false) : vfit W T g kd er (n + m) = false := by
  induction m with
  | zero => exact h
  | succ m ih =>
    show (vfit W T g kd er (n + m) && _) = false
    rw [ih]
    rfl
theorem c_WI_fits {g kd er : Nat} (h : vW μ w W) (ht : vt_C μ t T) (hwp : ∀ i, i < wN W → wP W i < tP T) (hg : g < tG T) (hd : kd < 4) (he : er ≤ 40) : vm_Ex E 4 n_WI_fits [.ref w, .ref t, .int (nI g), .int (nI kd), .int (nI er)] 0 0 μ (vm_PI (vm_bi (vfit W T g kd er (wN W) = true)) μ) := by
  have hN := h.ok.1
  have hG := ht.ok.G5
  have hP := ht.ok.P6
  refine vm_start (D := 3) (by decide) rfl (Nat.le_of_ble_eq_true rfl) (k := k_WI_fits) rfl (L := [.ref w, .ref t, .int (nI g), .int (nI kd), .int (nI er), .retAddr 0, .retAddr 0]) rfl ?_
  refine vm_r_iconst (kI := nI 0) rfl ?_
  refine vm_r_istore5 rfl rfl ?_
  refine vm_up (P := fun i => ∀ v : Value, vm_nlv v = true → vfit W T g kd er i = true → vm_W E (vm_Ex E 3) k_WI_fits _ (3, [.ref w, .ref t, .int (nI g), .int (nI kd), .int (nI er), .int (nI i), v], [], 0, 0, μ)) (N := wN W) ?_ ?_ 0 (by omega) (.retAddr 0) rfl rfl
  · intro v hv hf
    refine vm_r_iload rfl rfl ?_
    refine vm_r_aload_n rfl rfl rfl ?_
    refine vm_r_getI rfl (h.gN) ?_
    first | refine vm_r_icmp_geN rfl (by omega) (by omega) (fun _ => ?_) (fun hn => absurd hn (by omega)) | refine vm_r_icmp_ge rfl (fun _ => ?_) (fun hn => absurd hn (by omega))
    refine vm_r_iconst (kI := nI 1) rfl ?_
    refine vm_r_ret rfl (fun _ => by first | exact vm_bi_01 _ | decide) (vm_PI.of (vm_bi_t hf))
  · intro i hi ih v hv hf
    obtain ⟨b1, b2, b3⟩ := h.ok.2.2.1 i hi
    have hwi := hwp i hi
    have hB := ht.ok.B hwi
    have hdl := vdn_le kd hB (ht.ok.A hg) 5 (Nat.le_refl _)
    have es : vfit W T g kd er (i + 1) = (vfit W T g kd er i && (decide (wG W i ≠ g) || (decide (vdn kd (tB T (wP W i)) (tA T g) 5 ≤ er) == decide (wI W i = 1)))) := rfl
    rw [hf, Bool.true_and] at es
    have bad : vfit W T g kd er (i + 1) = false → vfit W T g kd er (wN W) = false := fun z => by
      have := vfit_end (m := wN W - (i + 1)) z
      rwa [show i + 1 + (wN W - (i + 1)) = wN W by omega] at this
    refine vm_r_iload rfl rfl ?_
    refine vm_r_aload_n rfl rfl rfl ?_
    refine vm_r_getI rfl (h.gN) ?_
    first | refine vm_r_icmp_geN rfl (by omega) (by omega) (fun hn => absurd hn (by omega)) (fun _ => ?_) | refine vm_r_icmp_ge rfl (fun hn => absurd hn (by omega)) (fun _ => ?_)
    refine vm_r_aload_n rfl rfl rfl ?_
    refine vm_r_getR rfl (h.r0) ?_
    refine vm_r_iload rfl rfl ?_
    refine vm_r_iaload rfl (h.1.2.1) (by omega) (by omega) (h.vP hi) ?_
    refine vm_r_istore6 rfl rfl ?_
    refine vm_r_aload_n rfl rfl rfl ?_
    refine vm_r_getR rfl (h.r1) ?_
    refine vm_r_iload rfl rfl ?_
    refine vm_r_iaload rfl (h.1.2.2.1) (by omega) (by omega) (h.vG hi) ?_
    refine vm_r_iload_n rfl rfl rfl ?_
    first | refine vm_r_icmp_neN rfl (by omega) (by omega) (fun e => ?_) (fun e => ?_) | refine vm_r_icmp_ne rfl (fun e => ?_) (fun e => ?_)
    · rw [decide_eq_true e, Bool.true_or] at es
      first | refine vm_r_iinc5N (y := 1) rfl rfl ?_ | refine vm_r_iinc5 rfl rfl ?_
      refine vm_r_goto rfl ?_
      exact ih _ rfl es
    · rw [decide_eq_false (fun z => z e), Bool.false_or] at es
      refine vm_r_aload_n rfl rfl rfl ?_
      refine vm_r_iload rfl rfl ?_
      refine vm_r_cv2I rfl (by decide) (ht.s.ob) (Nat.le_of_ble_eq_true rfl) (vm_Ex_le (by first | exact Nat.le_of_ble_eq_true rfl | omega) (c_TN_isPerson ht _)) ?_
      first | refine vm_r_if_eqB rfl (fun hn => absurd hn ((not_not_intro (v_ixt hwi (by omega))))) (fun _ => ?_) | refine vm_r_if_eqN rfl (by omega) (fun hn => absurd hn ((not_not_intro (v_ixt hwi (by omega))))) (fun _ => ?_) | refine vm_r_if_eq rfl (fun hn => absurd hn ((not_not_intro (v_ixt hwi (by omega))))) (fun _ => ?_)
      refine vm_r_aload_n rfl rfl rfl ?_
      refine vm_r_aload_n rfl rfl rfl ?_
      refine vm_r_getR rfl (ht.s.rB) ?_
      refine vm_r_iload rfl rfl ?_
      refine vm_r_iaload rfl (ht.s.sB) (by omega) (by omega) (ht.vB hwi) ?_
      refine vm_r_iload_n rfl rfl rfl ?_
      refine vm_r_iload_n rfl rfl rfl ?_
      refine vm_r_cv4I rfl (by decide) (ht.s.ob) (Nat.le_of_ble_eq_true rfl) (vm_Ex_le (by first | exact Nat.le_of_ble_eq_true rfl | omega) (c_TN_distance ht hB hg hd)) ?_
      refine vm_r_iload rfl rfl ?_
      first | refine vm_r_icmp_gtN rfl (by omega) (by omega) (fun e2 => ?_) (fun e2 => ?_) | refine vm_r_icmp_gt rfl (fun e2 => ?_) (fun e2 => ?_)
      · rw [decide_eq_false (by omega)] at es
        refine vm_r_iconst (kI := nI 0) rfl ?_
        refine vm_r_aload_n rfl rfl rfl ?_
        refine vm_r_getR rfl (h.r2) ?_
        refine vm_r_iload rfl rfl ?_
        refine vm_r_baload rfl (h.1.2.2.2.1) (by omega) (by omega) (h.vI hi) ?_
        first | refine vm_r_icmp_eqN rfl (by omega) (by omega) (fun e3 => ?_) (fun e3 => ?_) | refine vm_r_icmp_eq rfl (fun e3 => ?_) (fun e3 => ?_)
        · rw [decide_eq_false (by omega)] at es
          first | refine vm_r_iinc5N (y := 1) rfl rfl ?_ | refine vm_r_iinc5 rfl rfl ?_
          refine vm_r_goto rfl ?_
          exact ih _ rfl es
        · rw [decide_eq_true (by omega)] at es
          refine vm_r_iconst (kI := nI 0) rfl ?_
          refine vm_r_ret rfl (fun _ => by first | exact vm_bi_01 _ | decide) (vm_PI.of (vm_bi_f (by rw [bad es]; decide)))
      · rw [decide_eq_true e2] at es
        refine vm_r_iconst (kI := nI 1) rfl ?_
        refine vm_r_goto rfl ?_
        refine vm_r_aload_n rfl rfl rfl ?_
        refine vm_r_getR rfl (h.r2) ?_
        refine vm_r_iload rfl rfl ?_
        refine vm_r_baload rfl (h.1.2.2.2.1) (by omega) (by omega) (h.vI hi) ?_
        first | refine vm_r_icmp_eqN rfl (by omega) (by omega) (fun e3 => ?_) (fun e3 => ?_) | refine vm_r_icmp_eq rfl (fun e3 => ?_) (fun e3 => ?_)
        · rw [decide_eq_true (by omega)] at es
          first | refine vm_r_iinc5N (y := 1) rfl rfl ?_ | refine vm_r_iinc5 rfl rfl ?_
          refine vm_r_goto rfl ?_
          exact ih _ rfl es
        · rw [decide_eq_false (by omega)] at es
          refine vm_r_iconst (kI := nI 0) rfl ?_
          refine vm_r_ret rfl (fun _ => by first | exact vm_bi_01 _ | decide) (vm_PI.of (vm_bi_f (by rw [bad es]; decide)))
theorem c_WI_misses {c : Nat} (h : vW μ w W) (hc : c < 2 ^ 31) : vm_Ex E 2 n_WI_misses [.ref w, .int (nI c)] 0 0 μ (vm_PI (nI (vmis W c (wM W))) μ) := by
  have hN := h.ok.2.1
  refine vm_start (D := 1) (by decide) rfl (Nat.le_of_ble_eq_true rfl) (k := k_WI_misses) rfl (L := [.ref w, .int (nI c), .retAddr 0, .retAddr 0]) rfl ?_
  refine vm_r_iconst (kI := nI 0) rfl ?_
  refine vm_r_istore_n2 rfl rfl rfl ?_
  refine vm_r_iconst (kI := nI 0) rfl ?_
  refine vm_r_istore_n3 rfl rfl rfl ?_
  refine vm_up (P := fun i => vm_W E (vm_Ex E 1) k_WI_misses _ (4, [.ref w, .int (nI c), .int (nI (vmis W c i)), .int (nI i)], [], 0, 0, μ)) (N := wM W) ?_ ?_ 0 (by omega)
  · refine vm_r_iload_n rfl rfl rfl ?_
    refine vm_r_aload_n rfl rfl rfl ?_
    refine vm_r_getI rfl (h.gM) ?_
    first | refine vm_r_icmp_geN rfl (by omega) (by omega) (fun _ => ?_) (fun hn => absurd hn (by omega)) | refine vm_r_icmp_ge rfl (fun _ => ?_) (fun hn => absurd hn (by omega))
    refine vm_r_iload_n rfl rfl rfl ?_
    refine vm_r_ret rfl (fun h => by cases h) (vm_PI.of rfl)
  · intro i hi ih
    obtain ⟨b1, b2⟩ := h.ok.2.2.2 i hi
    have b3 := vd_lt c (wK W i)
    rw [vmis_s W c i] at ih
    refine vm_r_iload_n rfl rfl rfl ?_
    refine vm_r_aload_n rfl rfl rfl ?_
    refine vm_r_getI rfl (h.gM) ?_
    first | refine vm_r_icmp_geN rfl (by omega) (by omega) (fun hn => absurd hn (by omega)) (fun _ => ?_) | refine vm_r_icmp_ge rfl (fun hn => absurd hn (by omega)) (fun _ => ?_)
    refine vm_r_iload_n rfl rfl rfl ?_
    refine vm_r_aload_n rfl rfl rfl ?_
    refine vm_r_getR rfl (h.r3) ?_
    refine vm_r_iload_n rfl rfl rfl ?_
    refine vm_r_iaload rfl (h.1.2.2.2.2.1) (by omega) (by omega) (h.vK hi) ?_
    refine vm_r_cs2I rfl (by decide) (Nat.le_of_ble_eq_true rfl) (vm_Ex_le (by first | exact Nat.le_of_ble_eq_true rfl | omega) (c_SY_soundAt hc (by omega))) ?_
    refine vm_r_aload_n rfl rfl rfl ?_
    refine vm_r_getR rfl (h.r4) ?_
    refine vm_r_iload_n rfl rfl rfl ?_
    refine vm_r_iaload rfl (h.1.2.2.2.2.2) (by omega) (by omega) (h.vS hi) ?_
    first | refine vm_r_icmp_eqN rfl (by omega) (by omega) (fun e => ?_) (fun e => ?_) | refine vm_r_icmp_eq rfl (fun e => ?_) (fun e => ?_)
    · rw [if_neg (by simp [e])] at ih
      first | refine vm_r_iinc3N (y := 1) rfl rfl ?_ | refine vm_r_iinc3 rfl rfl ?_
      refine vm_r_goto rfl ?_
      exact ih
    · rw [if_pos (by simp [e])] at ih
      first | refine vm_r_iinc2N (y := 1) rfl rfl ?_ | refine vm_r_iinc2 rfl rfl ?_
      first | refine vm_r_iinc3N (y := 1) rfl rfl ?_ | refine vm_r_iinc3 rfl rfl ?_
      refine vm_r_goto rfl ?_
      exact ih
theorem c_G_chance {m x : Nat} (hm : m < 32) (hx : x ≤ 10) : vm_Ex E 1 n_G_chance [.int (nI m), .int (nI x)] 0 0 μ (vm_PI (nI (vch m x 5)) μ) := by
  refine vm_start (D := 0) (by decide) rfl (Nat.le_of_ble_eq_true rfl) (k := k_G_chance) rfl (L := [.int (nI m), .int (nI x), .retAddr 0, .retAddr 0]) rfl ?_
  refine vm_r_iconst (kI := nI 1) rfl ?_
  refine vm_r_istore_n2 rfl rfl rfl ?_
  refine vm_r_iconst (kI := nI 0) rfl ?_
  refine vm_r_istore_n3 rfl rfl rfl ?_
  refine vm_up (P := fun i => vm_W E (vm_Ex E 0) k_G_chance _ (4, [.int (nI m), .int (nI x), .int (nI (vch m x i)), .int (nI i)], [], 0, 0, μ)) (N := 5) ?_ ?_ 0 (by decide)
  · refine vm_r_iload_n rfl rfl rfl ?_
    refine vm_r_iconst (kI := nI 5) rfl ?_
    first | refine vm_r_icmp_geN rfl (by omega) (by omega) (fun _ => ?_) (fun hn => absurd hn (by omega)) | refine vm_r_icmp_ge rfl (fun _ => ?_) (fun hn => absurd hn (by omega))
    refine vm_r_iload_n rfl rfl rfl ?_
    refine vm_r_ret rfl (fun h => by cases h) (vm_PI.of rfl)
  · intro i hi ih
    have es : vch m x (i + 1) = vch m x i * (if m / 2 ^ i % 2 = 1 then x else 10 - x) := rfl
    have h3 := Nat.mod_lt (m / 2 ^ i) (show 0 < 2 by decide)
    rw [es] at ih
    refine vm_r_iload_n rfl rfl rfl ?_
    refine vm_r_iconst (kI := nI 5) rfl ?_
    first | refine vm_r_icmp_geN rfl (by omega) (by omega) (fun hn => absurd hn (by omega)) (fun _ => ?_) | refine vm_r_icmp_ge rfl (fun hn => absurd hn (by omega)) (fun _ => ?_)
    refine vm_r_iload_n rfl rfl rfl ?_
    refine vm_r_iload_n rfl rfl rfl ?_
    refine vm_r_iload_n rfl rfl rfl ?_
    refine vm_r_ishrN rfl (by omega) (by omega) ?_
    refine vm_r_iconst (kI := nI 1) rfl ?_
    first | refine vm_r_iandN rfl ?_ | refine vm_r_iand rfl ?_
    refine vm_r_top ((congrArg nI (v_and1 _))) ?_
    refine vm_r_iconst (kI := nI 1) rfl ?_
    first | refine vm_r_icmp_neN rfl (by omega) (by omega) (fun e => ?_) (fun e => ?_) | refine vm_r_icmp_ne rfl (fun e => ?_) (fun e => ?_)
    · rw [if_neg e] at ih
      refine vm_r_bipush (kI := nI 10) rfl ?_
      refine vm_r_iload_n rfl rfl rfl ?_
      first | refine vm_r_isubN rfl (by omega) ?_ | refine vm_r_isub rfl ?_
      first | refine vm_r_imulN rfl ?_ | refine vm_r_imul rfl ?_
      refine vm_r_istore_n2 rfl rfl rfl ?_
      first | refine vm_r_iinc3N (y := 1) rfl rfl ?_ | refine vm_r_iinc3 rfl rfl ?_
      refine vm_r_goto rfl ?_
      exact ih
    · rw [if_pos e] at ih
      refine vm_r_iload_n rfl rfl rfl ?_
      refine vm_r_goto rfl ?_
      first | refine vm_r_imulN rfl ?_ | refine vm_r_imul rfl ?_
      refine vm_r_istore_n2 rfl rfl rfl ?_
      first | refine vm_r_iinc3N (y := 1) rfl rfl ?_ | refine vm_r_iinc3 rfl rfl ?_
      refine vm_r_goto rfl ?_
      exact ih
theorem c_G_commonDivisor {a b : Nat} (ha : a < 2 ^ 31) (hb : b < 2 ^ 31) : vm_Ex E 1 n_G_commonDivisor [.int (nI a), .int (nI b)] 0 0 μ (vm_PI (nI (veu 64 a b)) μ) := by
  refine vm_start (D := 0) (by decide) rfl (Nat.le_of_ble_eq_true rfl) (k := k_G_commonDivisor) rfl (L := [.int (nI a), .int (nI b), .retAddr 0, .retAddr 0, .retAddr 0, .retAddr 0]) rfl ?_
  refine vm_r_iload_n rfl rfl rfl ?_
  refine vm_r_istore_n2 rfl rfl rfl ?_
  refine vm_r_iload_n rfl rfl rfl ?_
  refine vm_r_istore_n3 rfl rfl rfl ?_
  refine vm_r_iconst (kI := nI 0) rfl ?_
  refine vm_r_istore4 rfl rfl ?_
  refine vm_up (P := fun i => ∀ (g l : Nat) (v : Value), vm_nlv v = true → g < 2 ^ 31 → l < 2 ^ 31 → veu 64 a b = veu (64 - i) g l → vm_W E (vm_Ex E 0) k_G_commonDivisor _ (7, [.int (nI a), .int (nI b), .int (nI g), .int (nI l), .int (nI i), v], [], 0, 0, μ)) (N := 64) ?_ ?_ 0 (by decide) a b (.retAddr 0) rfl ha hb rfl
  · intro g l v hv hg hl he
    refine vm_r_iload rfl rfl ?_
    refine vm_r_bipush (kI := nI 64) rfl ?_
    first | refine vm_r_icmp_geN rfl (by omega) (by omega) (fun _ => ?_) (fun hn => absurd hn (by omega)) | refine vm_r_icmp_ge rfl (fun _ => ?_) (fun hn => absurd hn (by omega))
    refine vm_r_iload_n rfl rfl rfl ?_
    refine vm_r_ret rfl (fun h => by cases h) (vm_PI.of (by rw [he]; rfl))
  · intro i hi ih g l v hv hg hl he
    obtain ⟨m, hm⟩ : ∃ m, 64 - i = m + 1 := ⟨64 - i - 1, by omega⟩
    rw [hm, veu_s m g l] at he
    refine vm_r_iload rfl rfl ?_
    refine vm_r_bipush (kI := nI 64) rfl ?_
    first | refine vm_r_icmp_geN rfl (by omega) (by omega) (fun hn => absurd hn (by omega)) (fun _ => ?_) | refine vm_r_icmp_ge rfl (fun hn => absurd hn (by omega)) (fun _ => ?_)
    refine vm_r_iload_n rfl rfl rfl ?_
    first | refine vm_r_if_eqB rfl (fun e => ?_) (fun e => ?_) | refine vm_r_if_eqN rfl (by omega) (fun e => ?_) (fun e => ?_) | refine vm_r_if_eq rfl (fun e => ?_) (fun e => ?_)
    · rw [if_pos e] at he
      refine vm_r_iload_n rfl rfl rfl ?_
      refine vm_r_ret rfl (fun h => by cases h) (vm_PI.of (by rw [he]))
    · rw [if_neg (by omega)] at he
      have hr : g % l < l := Nat.mod_lt _ (by omega)
      refine vm_r_iload_n rfl rfl rfl ?_
      refine vm_r_iload_n rfl rfl rfl ?_
      refine vm_r_iremN rfl (by omega) (by omega) (by omega) ?_
      refine vm_r_istore5 rfl rfl ?_
      refine vm_r_iload_n rfl rfl rfl ?_
      refine vm_r_istore_n2 rfl rfl rfl ?_
      refine vm_r_iload rfl rfl ?_
      refine vm_r_istore_n3 rfl rfl rfl ?_
      first | refine vm_r_iinc4N (y := 1) rfl rfl ?_ | refine vm_r_iinc4 rfl rfl ?_
      refine vm_r_goto rfl ?_
      exact ih _ _ _ rfl hl (by omega) (by rw [he, show 64 - (i + 1) = m by omega])
theorem c_G_draw {z n : Nat} (hz : z < 10000) (hn : n < 61) : vm_Ex E 1 n_G_draw [.int (nI z), .int (nI n)] 0 0 μ (vm_PI (nI (vdr z n)) μ) := by
  have h1 : (7919 * z + 6151 * n + 1) * (7919 * z + 6151 * n + 1) < 80000000 * 80000000 := Nat.mul_lt_mul'' (by omega) (by omega)
  have h2 := Nat.mod_lt ((7919 * z + 6151 * n + 1) * (7919 * z + 6151 * n + 1)) (show 0 < 65521 by decide)
  refine vm_start (D := 0) (by decide) rfl (Nat.le_of_ble_eq_true rfl) (k := k_G_draw) rfl (L := [.int (nI z), .int (nI n), .retAddr 0, .retAddr 0]) rfl ?_
  refine vm_r_ldc2_w (kL := lN 7919) rfl ?_
  refine vm_r_iload_n rfl rfl rfl ?_
  first | refine vm_r_i2lN rfl (by omega) ?_ | refine vm_r_i2l rfl ?_
  refine vm_r_lmul rfl ?_
  refine vm_r_topJ (l_mul _ _) ?_
  refine vm_r_ldc2_w (kL := lN 6151) rfl ?_
  refine vm_r_iload_n rfl rfl rfl ?_
  first | refine vm_r_i2lN rfl (by omega) ?_ | refine vm_r_i2l rfl ?_
  refine vm_r_lmul rfl ?_
  refine vm_r_topJ (l_mul _ _) ?_
  refine vm_r_ladd rfl ?_
  refine vm_r_topJ (l_add _ _) ?_
  refine vm_r_lconst (kL := lN 1) rfl ?_
  refine vm_r_ladd rfl ?_
  refine vm_r_topJ (l_add _ _) ?_
  refine vm_r_lstore_n2 rfl rfl rfl ?_
  refine vm_r_lload_n rfl rfl rfl ?_
  refine vm_r_lload_n rfl rfl rfl ?_
  refine vm_r_lmul rfl ?_
  refine vm_r_topJ (l_mul _ _) ?_
  refine vm_r_ldc2_w (kL := lN 65521) rfl ?_
  refine vm_r_lrem rfl (by decide) ?_
  refine vm_r_topJ (pk_lRem (by omega) (by decide) (by decide)) ?_
  refine vm_r_ldc2_w (kL := lN 2) rfl ?_
  refine vm_r_ldiv rfl (by decide) ?_
  refine vm_r_topJ (pk_lDiv (by omega) (by decide) (by decide)) ?_
  refine vm_r_l2i rfl ?_
  refine vm_r_top (l_i _) ?_
  refine vm_r_ret rfl (fun h => by cases h) (vm_PI.of rfl)
theorem vdr_lt (z n : Nat) : vdr z n < 32761 := by
  unfold vdr
  have h2 := Nat.mod_lt ((7919 * z + 6151 * n + 1) * (7919 * z + 6151 * n + 1)) (show 0 < 65521 by decide)
  omega
/-- what a draw does to a town -/
def vlive (T : vt_T) (w : Nat) : vt_T := if w / 64 % 4 ≠ 0 then vvis T (w % tP T) (w / 8 % tG T) else vcon T (w % tP T) ((w % tP T + 1) % tP T)
theorem vlive_ok {w : Nat} (h : vt_ok T) (hG : 0 < tG T) (hP : 0 < tP T) : vt_ok (vlive T w) := by
  unfold vlive
  split
  · exact vvis_ok h (Nat.mod_lt _ hP) (Nat.mod_lt _ hG)
  · exact vcon_ok h (Nat.mod_lt _ hP) (Nat.mod_lt _ hP)
theorem c_G_liveOnce {d : Nat} (ht : vt_C μ t T) (hG : 0 < tG T) (hP : 0 < tP T) (hd : d < 32768) : vm_Ex E 6 n_G_liveOnce [.ref t, .int (nI d)] 0 0 μ (vm_PV (fun μ' => vf μ μ' t (t + 5) ∧ vt_C μ' t (vlive T d))) := by
  have hG5 := ht.ok.G5
  have hP6 := ht.ok.P6
  have hp := Nat.mod_lt d hP
  have h4 := Nat.mod_lt (d / 64) (show 0 < 4 by decide)
  refine vm_start (D := 5) (by decide) rfl (Nat.le_of_ble_eq_true rfl) (k := k_G_liveOnce) rfl (L := [.ref t, .int (nI d), .retAddr 0]) rfl ?_
  refine vm_r_aload_n rfl rfl rfl ?_
  refine vm_r_getI rfl (ht.gP) ?_
  refine vm_r_iconst (kI := nI 1) rfl ?_
  first | refine vm_r_icmp_ltN rfl (by omega) (by omega) (fun hn => absurd hn (by omega)) (fun _ => ?_) | refine vm_r_icmp_lt rfl (fun hn => absurd hn (by omega)) (fun _ => ?_)
  refine vm_r_aload_n rfl rfl rfl ?_
  refine vm_r_getI rfl (ht.gG) ?_
  refine vm_r_iconst (kI := nI 1) rfl ?_
  first | refine vm_r_icmp_geN rfl (by omega) (by omega) (fun _ => ?_) (fun hn => absurd hn (by omega)) | refine vm_r_icmp_ge rfl (fun _ => ?_) (fun hn => absurd hn (by omega))
  refine vm_r_iload_n rfl rfl rfl ?_
  refine vm_r_aload_n rfl rfl rfl ?_
  refine vm_r_getI rfl (ht.gP) ?_
  refine vm_r_iremN rfl (by omega) (by omega) (by omega) ?_
  refine vm_r_istore_n2 rfl rfl rfl ?_
  refine vm_r_iload_n rfl rfl rfl ?_
  refine vm_r_bipush (kI := nI 64) rfl ?_
  refine vm_r_idivN rfl (by omega) (by omega) (by omega) ?_
  refine vm_r_iconst (kI := nI 4) rfl ?_
  refine vm_r_iremN rfl (by omega) (by omega) (by omega) ?_
  first | refine vm_r_if_eqB rfl (fun e => ?_) (fun e => ?_) | refine vm_r_if_eqN rfl (by omega) (fun e => ?_) (fun e => ?_) | refine vm_r_if_eq rfl (fun e => ?_) (fun e => ?_)
  · have e1 : vlive T d = vcon T (d % tP T) ((d % tP T + 1) % tP T) := by
      unfold vlive
      rw [if_neg (by omega)]
    rw [e1]
    refine vm_r_aload_n rfl rfl rfl ?_
    refine vm_r_iload_n rfl rfl rfl ?_
    refine vm_r_iload_n rfl rfl rfl ?_
    refine vm_r_iconst (kI := nI 1) rfl ?_
    first | refine vm_r_iaddN rfl ?_ | refine vm_r_iadd rfl ?_
    refine vm_r_aload_n rfl rfl rfl ?_
    refine vm_r_getI rfl (ht.gP) ?_
    refine vm_r_iremN rfl (by omega) (by omega) (by omega) ?_
    refine vm_r_cv3V rfl (by decide) (ht.s.ob) (Nat.le_of_ble_eq_true rfl) (vm_Ex_le (by first | exact Nat.le_of_ble_eq_true rfl | omega) (c_TN_converse ht hp (Nat.mod_lt _ hP))) (fun μ1 q1 => ?_)
    refine vm_r_vret rfl (⟨rfl, q1.1, q1.2⟩)
  · have e1 : vlive T d = vvis T (d % tP T) (d / 8 % tG T) := by
      unfold vlive
      rw [if_pos (by omega)]
    rw [e1]
    refine vm_r_aload_n rfl rfl rfl ?_
    refine vm_r_iload_n rfl rfl rfl ?_
    refine vm_r_iload_n rfl rfl rfl ?_
    refine vm_r_bipush (kI := nI 8) rfl ?_
    refine vm_r_idivN rfl (by omega) (by omega) (by omega) ?_
    refine vm_r_aload_n rfl rfl rfl ?_
    refine vm_r_getI rfl (ht.gG) ?_
    refine vm_r_iremN rfl (by omega) (by omega) (by omega) ?_
    refine vm_r_cv3X rfl (by decide) (ht.s.ob) (Nat.le_of_ble_eq_true rfl) (vm_Ex_le (by first | exact Nat.le_of_ble_eq_true rfl | omega) (c_TN_visit ht hp (Nat.mod_lt _ hG))) (fun z μ1 q1 => ?_)
    refine vm_r_pop rfl rfl ?_
    refine vm_r_goto rfl ?_
    refine vm_r_vret rfl (⟨rfl, q1.2.1, q1.2.2⟩)
end WIT
