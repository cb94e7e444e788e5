/-! What holds between two calls. -/
theorem vM.keepx {μ μ' : vm_M} {m lo hi : Nat} {z : vZ} (h : vM μ m z) (f : vx μ μ' lo hi) (hd : m + 15 < lo ∨ hi < m) : vM μ' m z := by
  have g : ∀ o, m ≤ o → o ≤ m + 15 → μ'.2.1 o = μ.2.1 o := fun o h1 h2 => (f.2.2 o (by omega)).1
  refine ⟨by rw [f.1]; exact h.1, ?_⟩
  unfold vMI
  rw [g m (by omega) (by omega), g (m + 1) (by omega) (by omega), g (m + 2) (by omega) (by omega), g (m + 5) (by omega) (by omega), g (m + 7) (by omega) (by omega), g (m + 8) (by omega) (by omega), g (m + 9) (by omega) (by omega), g (m + 10) (by omega) (by omega)]
  exact h.2
theorem vsta.rf {T : vt_T} : vsta T T := ⟨rfl, rfl, rfl⟩
theorem vsta.sy {T U : vt_T} (h : vsta T U) : vsta U T := ⟨h.1.symm, h.2.1.symm, h.2.2.symm⟩
theorem vsta.tr {T U V : vt_T} (h : vsta T U) (h2 : vsta U V) : vsta T V := ⟨h.1.trans h2.1, h.2.1.trans h2.2.1, h.2.2.trans h2.2.2⟩
theorem vsta.G {T U : vt_T} (h : vsta T U) : tG T = tG U := congrArg Prod.fst h.1
theorem vsta.P {T U : vt_T} (h : vsta T U) : tP T = tP U := congrArg Prod.snd h.1
section INV
variable {E : vm_V} {μ μ' : vm_M} {x : Nat} {z : vZ}
theorem iv_town {T : vt_T} {k : Nat} {Q : Nat → vt_T} {k' : Nat} {R : Nat → vt_T} (h : v_inv z) (e : vsta T (zT z)) (hQ : ∀ j, j < k → vsta (Q j) (zT z)) (hR : ∀ j, j < k' → vsta (R j) (zT z)) : v_inv (T, (k, Q), (k', R), zW z, (zn z, zx z)) := by
  obtain ⟨h1, h2, h3, h4⟩ := h
  refine ⟨?_, fun j hj => (hQ j hj).tr e.sy, fun j hj => (hR j hj).tr e.sy, fun i hi => ?_⟩
  · show 0 < tG T ∧ 0 < tP T
    rw [e.G, e.P]
    exact h1
  · show wP (zW z) i < tP T
    rw [e.P]
    exact h4 i hi
theorem iv_put {T : vt_T} (h : v_inv z) (e : vsta T (zT z)) (h8 : zp z ≤ 8) : v_inv (zput z T) := by
  refine iv_town h e (fun j hj => ?_) h.2.2.1
  unfold vput
  unfold vpuh at hj
  by_cases y : zp z < 8
  · rw [if_pos y] at hj
    rw [if_pos y]
    by_cases w : j = zp z
    · subst w
      rw [vu_eq]
      exact vsta.rf
    · rw [vu_ne w]
      exact h.2.1 j (by omega)
  · rw [if_neg y] at hj
    rw [if_neg y]
    by_cases w : j + 1 = 8
    · show vsta (if j + 1 = 8 then zT z else zQ z (j + 1)) (zT z)
      rw [if_pos w]
      exact vsta.rf
    · show vsta (if j + 1 = 8 then zT z else zQ z (j + 1)) (zT z)
      rw [if_neg w]
      exact h.2.1 (j + 1) (by omega)
/-- what a state's parts keep -/
theorem vXS.okz (h : vXS μ x z) (i : v_inv z) : vOk z := by
  obtain ⟨a, hs⟩ := h.2.1
  obtain ⟨f, hp⟩ := h.2.2.2.2.1
  obtain ⟨g, hk⟩ := h.2.2.2.2.2.1
  exact ⟨h.t.ok, h.w.ok, hs.2.1, hp.2.1.2.2, hk.2.1.2.2, i⟩
theorem vXS.hok (h : vXS μ x z) : vHok z := by
  obtain ⟨f, hp⟩ := h.2.2.2.2.1
  obtain ⟨g, hk⟩ := h.2.2.2.2.2.1
  exact ⟨fun j hj => (hp.tw hj).ok, fun j hj => (hk.tw hj).ok⟩
theorem iv_write (h : v_inv z) (c : Int32) : v_inv (o_write z c).2 := by
  unfold o_write
  split
  · split
    · exact h
    · exact h
  · exact h
theorem iv_wipe (h : v_inv z) : v_inv (o_wipe z).2 := h
theorem iv_lay (h : v_inv z) : v_inv (o_lay z).2 := by
  unfold o_lay
  split
  · rename_i q
    exact ⟨q.2, fun j hj => absurd hj (Nat.not_lt_zero j), fun j hj => absurd hj (Nat.not_lt_zero j), fun j hj => absurd hj (Nat.not_lt_zero j)⟩
  · exact h
theorem iv_ask (h : v_inv z) (h8 : zp z ≤ 8) (p g : Int32) : v_inv (o_ask z p g).2 := by
  unfold o_ask
  split
  · exact iv_put h (vvis_1 _ _ _) h8
  · exact h
theorem iv_talk (h : v_inv z) (h8 : zp z ≤ 8) (p g : Int32) : v_inv (o_talk z p g).2 := by
  unfold o_talk
  split
  · split
    · exact iv_put h ⟨rfl, rfl, rfl⟩ h8
    · exact h
  · exact h
theorem iv_listen (h : v_inv z) (h8 : zp z ≤ 8) (p g : Int32) : v_inv (o_listen z p g).2 := by
  unfold o_listen
  split
  · split
    · exact iv_put h ⟨rfl, rfl, rfl⟩ h8
    · exact h
  · exact h
theorem iv_undo (h : v_inv z) : v_inv (o_undo z).2 := by
  unfold o_undo
  split
  · rename_i q
    exact iv_town h (h.2.1 _ (by omega)) (fun j hj => h.2.1 j (by omega)) h.2.2.1
  · exact h
theorem iv_keep (h : v_inv z) : v_inv (o_keep z).2 := by
  unfold o_keep
  split
  · refine iv_town h vsta.rf h.2.1 (fun j hj => ?_)
    by_cases w : j = zk z
    · subst w
      rw [vu_eq]
      exact vsta.rf
    · rw [vu_ne w]
      exact h.2.2.1 j (by omega)
  · exact h
theorem iv_back (h : v_inv z) : v_inv (o_back z).2 := by
  unfold o_back
  split
  · rename_i q
    exact iv_town h (h.2.2.1 _ (by omega)) (fun j hj => absurd hj (Nat.not_lt_zero j)) (fun j hj => h.2.2.1 j (by omega))
  · exact h
theorem iv_seen (h : v_inv z) (hP : tP (zT z) ≤ 6) (p g i : Int32) : v_inv (o_seen z p g i).2 := by
  unfold o_seen
  split
  · rename_i q
    split
    · refine ⟨h.1, h.2.1, h.2.2.1, fun j hj => ?_⟩
      have hj : j < wN (zW z) + 1 := hj
      show vu (wP (zW z)) (wN (zW z)) (nn p) j < tP (zT z)
      by_cases w : j = wN (zW z)
      · subst w
        rw [vu_eq]
        obtain ⟨a, ha, rfl⟩ := vix_n (by omega) q.1
        rw [nn_nI (by omega)]
        exact ha
      · rw [vu_ne w]
        exact h.2.2.2 j (by omega)
    · exact h
  · exact h
theorem iv_heard (h : v_inv z) (p g : Int32) : v_inv (o_heard z p g).2 := by
  unfold o_heard
  split
  · split
    · exact h
    · exact h
  · exact h
theorem iv_forget (h : v_inv z) : v_inv (o_forget z).2 := ⟨h.1, h.2.1, h.2.2.1, fun j hj => absurd hj (Nat.not_lt_zero j)⟩
theorem iv_0 : v_inv vz0 := ⟨⟨by decide, by decide⟩, fun j hj => absurd hj (Nat.not_lt_zero j), fun j hj => absurd hj (Nat.not_lt_zero j), fun j hj => absurd hj (Nat.not_lt_zero j)⟩
def vJ (μ : vm_M) (x : Nat) (z : vZ) : Prop := vXS μ x z ∧ vM μ (x + 96) z ∧ v_inv z
theorem vJ.g (h : vJ μ x z) {v : Option Value} {r : Int32 × vZ} (q : vPG μ x r v μ') : ∃ w, v = some (.int w) ∧ w = r.1 ∧ vXS μ' x r.2 ∧ vM μ' (x + 96) z := by
  obtain ⟨w, hw, e, f, hx⟩ := q
  exact ⟨w, hw, e, hx, h.2.1.keepx f (by omega)⟩
theorem vJ.m {z' : vZ} (hx : vXS μ x z') {v : Option Value} {r : Int32 × vZ} (er : r.2 = z') (q : vPM μ (x + 96) r v μ') (i : v_inv r.2) : ∃ w, v = some (.int w) ∧ w = r.1 ∧ vJ μ' x r.2 := by
  subst er
  obtain ⟨w, hw, e, f, hm⟩ := q
  exact ⟨w, hw, e, hx.keepx f (by omega), hm, i⟩
theorem v_and31 (a : Int32) : ∃ j, j < 32 ∧ a &&& nI 31 = nI j := by
  refine ⟨a.toBitVec.toNat % 32, Nat.mod_lt _ (by decide), ?_⟩
  apply Int32.toBitVec_inj.mp
  show a.toBitVec &&& BitVec.ofNat 32 31 = BitVec.ofNat 32 (a.toBitVec.toNat % 32)
  apply BitVec.eq_of_toNat_eq
  rw [BitVec.toNat_and, BitVec.toNat_ofNat, BitVec.toNat_ofNat]
  have e : 31 % 2 ^ 32 = 2 ^ 5 - 1 := by decide
  rw [e, Nat.and_two_pow_sub_one_eq_mod]
  have := Nat.mod_lt a.toBitVec.toNat (show 0 < 2 ^ 5 by decide)
  omega
end INV
