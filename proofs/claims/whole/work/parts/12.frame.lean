/-! A frame of the small machine is a frame of the machine; with the calls, by the depth: what vm_Ex says holds of the method. -/
abbrev vm_ro (d mc ms : Nat) : Room := { frames := d + 8, cells := mc, slots := ms, locals := 64 * d + 512 }
def vm_PM (D : va_G) (A : Nat → ClassId) (n0 : Nat) (E : vm_V) (as : List Value) (μ : vm_M) : Array Value → State → Prop := fun v U => v = as.toArray ∧ vm_Rp D A n0 μ U.heap ∧ vm_KE D A n0 E U U.heap
def vm_QM (D : va_G) (A : Nat → ClassId) (n0 : Nat) (Q : Option Value → vm_M → Prop) : Array Value → State → Outcome → State → Prop := fun _ st o t => (∃ v μ', o = .returned v ∧ Q v μ' ∧ vm_Rp D A n0 μ' t.heap) ∧ va_F (fun q => n0 ≤ q) st t
/-- the contract of method M that vm_Ex stands for -/
def vm_MM (l : Launch) (D : va_G) (A : Nat → ClassId) (n0 : Nat) (E : vm_V) (d M : Nat) (as : List Value) (mc ms : Nat) (μ : vm_M) (Q : Option Value → vm_M → Prop) : Prop :=
  Met l (vm_y M) (vm_wsx (vm_y M) (vm_b M) (vm_mx M) (vm_rt M)) (vm_ro d mc ms) (vm_PM D A n0 E as μ) (vm_QM D A n0 Q) mc ms (fun q => n0 ≤ q)
theorem vm_PM.blind {D : va_G} {A : Nat → ClassId} {n0 : Nat} {E : vm_V} {as : List Value} {μ : vm_M} : FrameBlind (vm_PM D A n0 E as μ) := fun a U g mk q => ⟨q.1, q.2.1, vm_KE.same (s := U) (U := U.calling g mk a) rfl rfl q.2.2⟩
theorem vm_plain_all : ∀ a, a < 161 → (vm_y a).cls ≠ "java/lang/invoke/MethodHandle" ∧ (vm_y a).cls ≠ "java/lang/invoke/VarHandle" ∧ vm_mx a ≤ 45 := by decide +kernel
set_option maxRecDepth 8000 in
theorem vm_ro_ok {d mc ms F Lc M : Nat} (h1 : d + 9 ≤ F) (h2 : 64 * d + 576 ≤ Lc) (h3 : M ≤ 45) : (vm_ro d mc ms).frames + 1 ≤ F ∧ 8 + (M + 11) + (vm_ro d mc ms).locals ≤ Lc := by
  have e1 : (vm_ro d mc ms).frames = d + 8 := rfl
  have e2 : (vm_ro d mc ms).locals = 64 * d + 512 := by rw [vm_ro]
  rw [e1, e2]
  clear e1 e2
  generalize 64 * d = z at h2 ⊢
  exact ⟨h1, by omega⟩
theorem vm_rt_init : ∀ a, a < 161 → (vm_y a).name = "<init>" → vm_rt a = none := by decide +kernel
def vm_uws : List Jvm.Cond := (List.range 8).flatMap fun ci => u_ws (vm_R ci) (vm_T ci) (vm_N ci)
theorem vm_nest_of {own : String} {x a : Nat} (h : vm_nest own x a = true) : ∃ host : String, (own, x, a, host) ∈ vm_nests := by
  obtain ⟨q, hq, h2⟩ := List.any_eq_true.mp h
  simp only [Bool.and_eq_true, decide_eq_true_eq] at h2
  obtain ⟨h3, h4, h5⟩ := h2
  refine ⟨q.2.2.2, ?_⟩
  rw [← h3, ← h4, ← h5]
  exact hq
section FRM
variable {p : Program} {l : Launch} {e : Env} {R : Room} {s : State} {m : MethodId} {args : Array Value} {below : List Frame} {meth : Method} {c : Code} {H : Heap} {locs : List Loc} {cells slots : Nat} {Q : State → Prop}
variable {bb : ByteArray} {pc n a b : Nat} {kI : Int32} {kL : Int64} {i : Instr} {ls : Array Slot} {own : String} {ini : Bool} {rt : Option FieldType} {st st' r : List Value}
variable {D : va_G} {A : Nat → ClassId} {n0 o : Nat} {μ μ' : vm_M} {E : vm_V} {H0 : Heap}
theorem vm_c2 {k : Nat} {x : Bool} (h : (decide (n = pc + k) && x) = true) (hd : decode bb pc = .ok (i, n - pc)) : n = pc + k ∧ decode bb pc = .ok (i, k) ∧ x = true := by
  obtain ⟨h1, h2⟩ := Bool.and_eq_true_iff.mp h
  obtain ⟨h3, h4⟩ := vm_c1 h1 hd
  exact ⟨h3, h4, h2⟩
theorem vm_s_read (hx : p.tables.exec = Jvm.exec) (hb : c.code = bb) (hml : c.maxLocals = ls.size) (hown : s.vm.findClass own = some m.cls) (htb : ∀ w ∈ vm_tb, w.before args s = true) (hu : ∀ ci, ci < 8 → ∀ w ∈ u_ws (vm_R ci) (vm_T ci) (vm_N ci), w.before args s = true)
    (hKE : vm_KE D A n0 E s s.heap) (hR : vm_Rp D A n0 μ H) (hS : va_S (fun q => n0 ≤ q) s.heap H locs) (hfr : 8 ≤ R.frames) (hlo : 512 ≤ R.locals) (hcl : cells ≤ R.cells) (hsl : slots ≤ R.slots)
    (hd : decode bb pc = .ok (i, n - pc)) (hk : vm_chk own ini rt (pc, i, n, a, b, kI, kL) = true) (hw : ∀ w ∈ vm_need own (pc, i, n, a, b, kI, kL), w.before args s = true)
    (h : vm_read E μ i a b st st') (kk : W p l e R s m args below meth c H locs cells slots Q (F0 m n ls st')) : W p l e R s m args below meth c H locs cells slots Q (F0 m pc ls st) := by
  rcases h with ⟨x, o, r, fl, rfl, rfl, hsh, h⟩ | ⟨j, o, N, r, rfl, hin, h⟩ | ⟨o, t, N, r, rfl, rfl, h, rfl⟩ | ⟨x, v, r, rfl, rfl, rfl, hsum, rfl⟩ | ⟨x, v, w, r, rfl, rfl, rfl, hsum, rfl⟩ | ⟨x, o, r, rfl, rfl, rfl, hsum, rfl⟩ | ⟨x, rfl, rfl, rfl⟩ | ⟨x, r, rfl, rfl, rfl, hsum, rfl⟩ | ⟨x, k, r, rfl, rfl, rfl, hk72, hsum, rfl⟩
  · obtain ⟨rfl, hd2, -⟩ := vm_c2 (k := 3) hk hd
    rcases h with ⟨hf, rfl⟩ | ⟨q, hf, rfl⟩
    · exact vm_s_getf hx hb hown hKE.1 hu hR (hw _ List.mem_cons_self) hsh hf rfl hd2 kk
    · exact vm_s_getf hx hb hown hKE.1 hu hR (hw _ List.mem_cons_self) hsh hf rfl hd2 kk
  · rcases h with ⟨rfl, hsh, rfl⟩ | ⟨rfl, hsh, rfl⟩ | ⟨rfl, hsh, rfl⟩ | ⟨rfl, hsh, rfl⟩ | ⟨rfl, hsh, rfl⟩ | ⟨rfl, rfl, rfl, rfl⟩
    · obtain ⟨rfl, hd2⟩ := vm_c1 (k := 1) hk hd
      exact vm_s_aload hx hb hKE.1 hR hin hd2 (Or.inl ⟨rfl, hsh, rfl⟩) kk
    · obtain ⟨rfl, hd2⟩ := vm_c1 (k := 1) hk hd
      exact vm_s_aload hx hb hKE.1 hR hin hd2 (Or.inr (Or.inl ⟨rfl, hsh, rfl⟩)) kk
    · obtain ⟨rfl, hd2⟩ := vm_c1 (k := 1) hk hd
      exact vm_s_aload hx hb hKE.1 hR hin hd2 (Or.inr (Or.inr (Or.inl ⟨rfl, hsh, rfl⟩))) kk
    · obtain ⟨rfl, hd2⟩ := vm_c1 (k := 1) hk hd
      exact vm_s_aload hx hb hKE.1 hR hin hd2 (Or.inr (Or.inr (Or.inr (Or.inl ⟨rfl, hsh, rfl⟩)))) kk
    · obtain ⟨rfl, hd2⟩ := vm_c1 (k := 1) hk hd
      exact vm_s_aload hx hb hKE.1 hR hin hd2 (Or.inr (Or.inr (Or.inr (Or.inr ⟨rfl, hsh, rfl⟩)))) kk
    · obtain ⟨rfl, hd2⟩ := vm_c1 (k := 1) hk hd
      obtain ⟨-, -, -, -, -, -, hX, hE, hz⟩ := hKE
      exact va_sld hx hb hX (by omega) (by omega) hS hin hd2 kk
  · obtain ⟨rfl, hd2⟩ := vm_c1 (k := 1) hk hd
    rcases h with ⟨hsh, -⟩ | ⟨rfl, rfl⟩
    · exact vm_s_alen hx hb hKE.1 hR hsh hd2 kk
    · obtain ⟨-, -, -, -, -, -, hX, hE, hz⟩ := hKE
      exact va_slen hx hb hX (by omega) (by omega) hS hd2 kk
  · obtain ⟨rfl, hd2, -⟩ := vm_c2 (k := 3) hk hd
    exact va_mabs hx hb hml hown (hw (.methodLink own x Lib.Math.abs.name) (by simp [vm_need])) (hw (.static Lib.Math.abs.name) (by simp [vm_need])) (hw (.initialized "java/lang/Math") (by simp [vm_need])) (hw (.code Lib.Math.abs.name Lib.Math.abs.code 1 (some .int)) (by simp [vm_need])) (by omega) (by omega) hcl hsl hd2 kk
  · obtain ⟨rfl, hd2, -⟩ := vm_c2 (k := 3) hk hd
    exact va_mmax hx hb hml hown (hw (.methodLink own x Lib.Math.max.name) (by simp [vm_need])) (hw (.static Lib.Math.max.name) (by simp [vm_need])) (hw (.initialized "java/lang/Math") (by simp [vm_need])) (hw (.code Lib.Math.max.name Lib.Math.max.code 2 (some .int)) (by simp [vm_need])) (by omega) (by omega) hcl hsl hd2 kk
  · obtain ⟨rfl, hd2, -⟩ := vm_c2 (k := 3) hk hd
    exact W.objInit hx hb hown (hw (.methodLink own x objectInit) (by simp [vm_need])) (hw (.instanceMethod objectInit) (by simp [vm_need])) (hw (.code objectInit ⟨#[0xb1]⟩ 1 none) (by simp [vm_need])) rfl (by rw [hml]) rfl hd2 (by omega) (by show 2 * 0 + _ + 12 ≤ _; omega) kk
  · obtain ⟨rfl, hd2, hc⟩ := vm_c2 (k := 2) hk hd
    simp only [ne_eq, not_true_eq_false, decide_false, Bool.false_or, Bool.and_eq_true, decide_eq_true_eq] at hc
    obtain ⟨rfl, rfl⟩ := hc
    obtain ⟨-, -, -, -, hK, -⟩ := hKE
    exact va_ldcS hx hb hown hK hd2 kk
  · obtain ⟨rfl, hd2, -⟩ := vm_c2 (k := 3) hk hd
    have hKE0 := hKE
    obtain ⟨-, -, -, -, -, ⟨⟨adV, hK⟩, -⟩, -⟩ := hKE
    exact vm_goS (va_runV (As := []) (rest := r) ⟨hx, hb, hml, hown, htb⟩ (vm_m_length (D := D) (A := A) (n0 := n0) (E := E) l) ⟨callB_of 0 htb (vm_good (vm_sws_in _ (List.mem_of_getElem? (i := 24) rfl))) rfl rfl rfl (hw (.initialized vm_yl.cls) (by simp [vm_need])) (hw (.methodLink own x vm_yl) (by simp [vm_need])) (by decide +kernel) ⟨by show 2 + 1 ≤ _; omega, by show 8 + (1 + 11) + 64 * 2 ≤ _; omega⟩, hw (.instanceMethod vm_yl) (by simp [vm_need]), hw (.selects vm_yl.cls vm_yl vm_yl) (by simp [vm_need])⟩
      ⟨vm_PS.blind, vk_recv (i := 0) hK (by decide) hS, fun U hU hW => ⟨rfl, by rw [hU]; exact vm_KE.go hW hS.1 hS.2.1 hKE0⟩⟩ rfl rfl rfl rfl (lv_room hsum) hd2 ⟨hcl, hsl⟩) kk
  · obtain ⟨rfl, hd2, -⟩ := vm_c2 (k := 3) hk hd
    have hKE0 := hKE
    obtain ⟨-, -, -, -, -, ⟨⟨adV, hK⟩, -⟩, -⟩ := hKE
    exact vm_goS (va_runV (As := [.int (nI k)]) (rest := r) ⟨hx, hb, hml, hown, htb⟩ (vm_m_charAt (D := D) (A := A) (n0 := n0) (E := E) l k hk72) ⟨callB_of 1 htb (vm_good (vm_sws_in _ (List.mem_of_getElem? (i := 25) rfl))) rfl rfl rfl (hw (.initialized vm_yc.cls) (by simp [vm_need])) (hw (.methodLink own x vm_yc) (by simp [vm_need])) (by decide +kernel) ⟨by show 4 + 1 ≤ _; omega, by show 8 + (2 + 11) + 64 * 4 ≤ _; omega⟩, hw (.instanceMethod vm_yc) (by simp [vm_need]), hw (.selects vm_yc.cls vm_yc vm_yc) (by simp [vm_need])⟩
      ⟨vm_PS.blind, vk_recv (i := 0) hK (by decide) hS, fun U hU hW => ⟨rfl, by rw [hU]; exact vm_KE.go hW hS.1 hS.2.1 hKE0⟩⟩ rfl rfl rfl rfl (lv_room hsum) hd2 ⟨hcl, hsl⟩) kk
theorem vm_s_write (hx : p.tables.exec = Jvm.exec) (hb : c.code = bb) (hml : c.maxLocals = ls.size) (hown : s.vm.findClass own = some m.cls) (hu : ∀ ci, ci < 8 → ∀ w ∈ u_ws (vm_R ci) (vm_T ci) (vm_N ci), w.before args s = true)
    (hKE : vm_KE D A n0 E s s.heap) (hR : vm_Rp D A n0 μ H) (hS : va_S (fun q => n0 ≤ q) H0 H locs) (hfr : 8 ≤ R.frames) (hlo : 512 ≤ R.locals) (hini : ini = true → meth.name = "<init>")
    (hd : decode bb pc = .ok (i, n - pc)) (hk : vm_chk own ini rt (pc, i, n, a, b, kI, kL) = true) (hw : ∀ w ∈ vm_need own (pc, i, n, a, b, kI, kL), w.before args s = true)
    (h : vm_write μ i a b st st' μ') (kk : ∀ (H1 : Heap) (locs1 : List Loc), vm_Rp D A n0 μ' H1 → va_S (fun q => n0 ≤ q) H0 H1 locs1 → W p l e R s m args below meth c H1 locs1 cells slots Q (F0 m n ls st')) : W p l e R s m args below meth c H locs cells slots Q (F0 m pc ls st) := by
  rcases h with ⟨x, o, v, fl, rfl, rfl, hsh, hf, rfl⟩ | ⟨x, o, q, w, fl, rfl, rfl, hsh, hf, rfl⟩ | ⟨j, v, o, N, rfl, hin, h, rfl⟩ | ⟨j, v, o, N, rfl, hin, rfl, hsh, rfl⟩ | ⟨j, o, N, q, fl, rfl, hin, rfl, hsh, hq, rfl⟩ | ⟨x, o, q, k, n1, n2, rfl, rfl, rfl, hsum, hk31, h1, h2, hso, hsq, rfl⟩
  · obtain ⟨rfl, hd2, -⟩ := vm_c2 (k := 3) hk hd
    exact vm_s_putI hx hb hown hKE.1 hu hR hS (hw _ List.mem_cons_self) hsh hf hd2 kk
  · obtain ⟨rfl, hd2, hc⟩ := vm_c2 (k := 3) hk hd
    obtain ⟨-, ha8, hfl, -⟩ := hR.2.2 o _ hsh
    have hbN := vm_bN ha8 hfl hf
    obtain ⟨y, hy, hy2⟩ := vm_bK hfl hf
    have hy3 : (vm_fl a)[b]? = some (some none) := by
      rcases vm_fb a ha8 b hbN with h | h
      · rw [h] at hy; cases hy; cases hy2
      · exact h
    have hfin := (vm_fr a ha8 b hbN hy3).1
    simp only [Bool.and_eq_true, decide_eq_true_eq, hfin, Bool.not_true, Bool.false_or] at hc
    exact vm_s_putR hx hb hown hKE.1 hu hR hS (hw _ List.mem_cons_self) hsh hf (hini hc.2.2.1) hc.2.2.2 hd2 kk
  · rcases h with ⟨rfl, hsh⟩ | ⟨rfl, hsh, hn⟩ | ⟨rfl, hsh, hn⟩
    · obtain ⟨rfl, hd2⟩ := vm_c1 (k := 1) hk hd
      exact vm_s_astI hx hb hKE.1 hR hS hin hd2 (Or.inl ⟨rfl, hsh⟩) kk
    · obtain ⟨rfl, hd2⟩ := vm_c1 (k := 1) hk hd
      exact vm_s_astI hx hb hKE.1 hR hS hin hd2 (Or.inr (Or.inl ⟨rfl, hsh, hn⟩)) kk
    · obtain ⟨rfl, hd2⟩ := vm_c1 (k := 1) hk hd
      exact vm_s_astI hx hb hKE.1 hR hS hin hd2 (Or.inr (Or.inr ⟨rfl, hsh, hn⟩)) kk
  · obtain ⟨rfl, hd2⟩ := vm_c1 (k := 1) hk hd
    exact vm_s_astJ hx hb hKE.1 hR hS hin hd2 hsh kk
  · obtain ⟨rfl, hd2⟩ := vm_c1 (k := 1) hk hd
    exact vm_s_astR hx hb hKE.1 hR hS hin hd2 hsh hq kk
  · obtain ⟨rfl, hd2, -⟩ := vm_c2 (k := 3) hk hd
    exact vm_s_copy hx hb hml hown (hw (.methodLink own x arraycopyName) (by simp [vm_need])) (hw (.native arraycopyName) (by simp [vm_need])) (hw (.static arraycopyName) (by simp [vm_need])) (hw (.initialized "java/lang/System") (by simp [vm_need])) hKE.1 hR hS hk31 h1 h2 hso hsq (by omega) (by omega) hsum hd2 kk
theorem vm_s_alloc {c0 d0 c1 d1 : Nat} (hx : p.tables.exec = Jvm.exec) (hb : c.code = bb) (hown : s.vm.findClass own = some m.cls) (hu : ∀ ci, ci < 8 → ∀ w ∈ u_ws (vm_R ci) (vm_T ci) (vm_N ci), w.before args s = true)
    (hKE : vm_KE D A n0 E s s.heap) (hR : vm_Rp D A n0 μ H) (hS : va_S (fun q => n0 ≤ q) H0 H locs) (hcl : cells + c0 ≤ R.cells) (hsl : slots + d0 ≤ R.slots)
    (hd : decode bb pc = .ok (i, n - pc)) (hk : vm_chk own ini rt (pc, i, n, a, b, kI, kL) = true) (hw : ∀ w ∈ vm_need own (pc, i, n, a, b, kI, kL), w.before args s = true)
    (h : vm_alloc μ i a b c0 d0 st st' c1 d1 μ') (kk : ∀ (H1 : Heap) (cells1 slots1 : Nat), vm_Rp D A n0 μ' H1 → va_S (fun q => n0 ≤ q) H0 H1 locs → cells1 + c1 ≤ R.cells → slots1 + d1 ≤ R.slots → W p l e R s m args below meth c H1 locs cells1 slots1 Q (F0 m n ls st')) : W p l e R s m args below meth c H locs cells slots Q (F0 m pc ls st) := by
  rcases h with ⟨x, rfl, rfl, rfl, rfl, rfl⟩ | ⟨t, k, r, rfl, ha4, rfl, rfl, hk6, rfl, rfl, rfl⟩ | ⟨x, k, r, rfl, rfl, rfl, rfl, hk6, rfl, rfl, rfl⟩ | ⟨x, N, K, r, rfl, rfl, rfl, rfl, hN6, hK6, rfl, rfl, rfl⟩
  · obtain ⟨rfl, hd2, hc⟩ := vm_c2 (k := 3) hk hd
    simp only [Bool.and_eq_true, decide_eq_true_eq] at hc
    obtain ⟨ha8, rfl⟩ := hc
    exact vm_s_new hx hb hown hKE.1 hu ha8 (hw (.classLink own x (vm_R a)) (by simp [vm_need])) (hw (.instantiable (vm_R a) (vm_N a)) (by simp [vm_need])) (hw (.initialized (vm_R a)) (by simp [vm_need])) hR hS (by omega) (by omega) hd2 (fun H1 g1 g2 => kk H1 _ _ g1 g2 (by omega) (by omega))
  · obtain ⟨rfl, hd2, hc⟩ := vm_c2 (k := 2) hk hd
    have hc := of_decide_eq_true hc
    exact vm_s_newa hx hb hKE.1 (hw (.arrayClass (newarray.typeOf t)) (by simp [vm_need])) hc.symm ha4 hk6 hR hS (by omega) (by omega) hd2 (fun H1 g1 g2 => kk H1 _ _ g1 g2 (by omega) (by omega))
  · obtain ⟨rfl, hd2⟩ := vm_c1 (k := 3) hk hd
    exact vm_s_anew hx hb hown hKE.1 (hw (.classLink own x (vm_R 4)) (by simp [vm_need])) hKE.2.2.1 hk6 hR hS (by omega) (by omega) hd2 (fun H1 g1 g2 => kk H1 _ _ g1 g2 (by omega) (by omega))
  · obtain ⟨rfl, hd2⟩ := vm_c1 (k := 4) hk hd
    exact vm_s_mnew hx hb hown hKE.1 (hw (.classLink own x "[[I") (by simp [vm_need])) (hw (.arrayClass .int) (by simp [vm_need])) hKE.2.2.2.1 hN6 hK6 hR hS (by omega) (by omega) hd2 (fun H1 g1 g2 => kk H1 _ _ g1 g2 (by omega) (by omega))
theorem vm_goC {mc ms : Nat} {st0 rest : List Value} {as : Array Value} {Qm : Option Value → vm_M → Prop} (hr : va_Run p l e R s m args below meth c H locs cells slots mc ms (F0 m pc ls st0) rest (vm_QM D A n0 Qm as) (fun q => n0 ≤ q)) (hS : va_S (fun q => n0 ≤ q) H0 H locs)
    (kk : ∀ (v : Option Value) (μ' : vm_M) (H1 : Heap) (locs1 : List Loc), Qm v μ' → vm_Rp D A n0 μ' H1 → va_S (fun q => n0 ≤ q) H0 H1 locs1 → W p l e R s m args below meth c H1 locs1 (cells + mc) (slots + ms) Q (F0 m (pc + 3) ls (v.toList ++ rest))) : W p l e R s m args below meth c H locs cells slots Q (F0 m pc ls st0) := by
  intro T hT X
  obtain ⟨v, st₀, t, T', L, h0, X', hL, e1, e2, ⟨⟨v', μ', hv, hq, hRp⟩, hz, hk⟩, st⟩ := hr T hT X
  cases hv
  rw [h0] at hz hk
  obtain ⟨t2, a1, b1⟩ := kk v μ' T'.heap (locs ++ L) hq (by rw [e1]; exact hRp)
    ⟨Nat.le_trans hS.1 (by rw [e1]; exact hz), fun q h1 h2 => by rw [e1, hk q (Nat.lt_of_lt_of_le h1 hS.1) h2]; exact hS.2.1 q h1 h2, fun q hq => by
      rcases List.mem_append.mp hq with h | h
      · exact hS.2.2 q h
      · exact hL q h⟩ T' rfl X'
  exact ⟨t2, st t2 a1, b1⟩
theorem vm_s_call {d mc ms : Nat} {as : List Value} {Qm : Option Value → vm_M → Prop} (hx : p.tables.exec = Jvm.exec) (hb : c.code = bb) (hml : c.maxLocals = ls.size) (hown : s.vm.findClass own = some m.cls) (htb : ∀ w ∈ vm_tb, w.before args s = true)
    (hKE : vm_KE D A n0 E s s.heap) (hR : vm_Rp D A n0 μ H) (hS : va_S (fun q => n0 ≤ q) s.heap H locs) (hfr : d + 9 ≤ R.frames) (hlo : 64 * d + 576 ≤ R.locals) (hcl : cells + mc ≤ R.cells) (hsl : slots + ms ≤ R.slots)
    (hd : decode bb pc = .ok (i, n - pc)) (hk : vm_chk own ini rt (pc, i, n, a, b, kI, kL) = true) (hw : ∀ w ∈ vm_need own (pc, i, n, a, b, kI, kL), w ∈ vm_tb)
    (ha : a < 900) (has : as.length = b) (hsum : (st.map fun v => v.category).sum ≤ 8)
    (h : (∃ (x o : Nat) (as' : List Value) (fl : List (Option (Option Nat))), i = .invokevirtual x ∧ as = .ref o :: as' ∧ μ.1 o = some (.inl (vm_mc a, fl))) ∨ (∃ x, i = .invokestatic x) ∨ (∃ (x o : Nat) (as' : List Value), i = .invokespecial x ∧ as = .ref o :: as'))
    (hM : vm_MM l D A n0 E d a as mc ms μ Qm)
    (kk : ∀ (v : Option Value) (μ' : vm_M) (H1 : Heap) (locs1 : List Loc), Qm v μ' → vm_Rp D A n0 μ' H1 → va_S (fun q => n0 ≤ q) s.heap H1 locs1 → W p l e R s m args below meth c H1 locs1 (cells + mc) (slots + ms) Q (F0 m n ls (v.toList ++ st))) : W p l e R s m args below meth c H locs cells slots Q (F0 m pc ls (as.reverse ++ st)) := by
  have hPre : ∀ U : State, U.heap = H → s.WarmedH U.vm → vm_PM D A n0 E as μ as.toArray U := fun U hU hW => ⟨rfl, by rw [hU]; exact hR, by rw [hU]; exact vm_KE.go hW hS.1 hS.2.1 hKE⟩
  have hn900 : ∀ q : Nat, 900 ≤ q → ¬ a = q := fun q h1 h2 => by omega
  rcases h with ⟨x, o, as', fl, rfl, rfl, hsh⟩ | ⟨x, rfl⟩ | ⟨x, o, as', rfl, rfl⟩
  · obtain ⟨rfl, hd2, hc⟩ := vm_c2 (k := 3) hk hd
    have hg : decide (a ≥ 900) = false := decide_eq_false (by omega)
    simp only [hg, Bool.false_or, Bool.and_eq_true, decide_eq_true_eq] at hc
    obtain ⟨ha1, hcls, hm8, hpar⟩ := hc
    obtain ⟨hpl1, hpl2, hmx⟩ := vm_plain_all a ha1
    have hwm : ∀ w ∈ ([.methodLink own x (vm_y a), .instanceMethod (vm_y a), .selects (vm_y a).cls (vm_y a) (vm_y a), .initialized (vm_y a).cls, .code (vm_y a) (vm_b a) (vm_mx a) (vm_rt a)] : List Jvm.Cond), w ∈ vm_tb := fun w hm => hw w (by
      show w ∈ (if a = 904 then _ else if a = 905 then _ else _)
      rw [if_neg (hn900 904 (by omega)), if_neg (hn900 905 (by omega))]
      exact hm)
    have hlen : vm_npar (vm_y a) = some as'.length := by
      cases hp : vm_npar (vm_y a) with
      | none => rw [hp] at hpar; cases hpar
      | some z =>
        rw [hp] at hpar
        have hz : z + 1 = b := Option.some.inj hpar
        simp only [List.length_cons] at has
        congr 1
        omega
    obtain ⟨-, -, -, cell, q1, q2, q3, -⟩ := hR.2.2 o _ hsh
    have hK1 := (hKE.1.1 (vm_mc a) _ (vm_cls_at hm8)).2.1
    have hrec : ∃ cellB : Cell, H[o]? = some cellB ∧ cellB.vm.isStatics = false ∧ s.vm.findClass (vm_y a).cls = some cellB.cls := ⟨cell, q1, by rw [q3]; rfl, by rw [q2, ← hcls]; exact hK1⟩
    have hst : (F0 m pc ls ((Value.ref o :: as').reverse ++ st)).stack = as'.reverse ++ .ref o :: st := by simp
    refine vm_goC (va_runV (As := as') (rest := st) ⟨hx, hb, hml, hown, htb⟩ hM ⟨callB_of as'.length htb (vm_good (hwm _ (by simp))) rfl rfl rfl (htb _ (hwm _ (by simp))) (htb _ (hwm _ (by simp))) ⟨hpl1, hpl2, hlen⟩ (vm_ro_ok hfr hlo hmx), htb _ (hwm _ (by simp)), htb _ (hwm _ (by simp))⟩ ⟨vm_PM.blind, hrec, hPre⟩ rfl rfl rfl hst (lv_room hsum) hd2 ⟨hcl, hsl⟩) hS ?_
    exact kk
  · obtain ⟨rfl, hd2, hc⟩ := vm_c2 (k := 3) hk hd
    have hg : decide (a ≥ 900) = false := decide_eq_false (by omega)
    simp only [hg, Bool.false_or, Bool.and_eq_true, decide_eq_true_eq] at hc
    obtain ⟨ha1, hpar⟩ := hc
    obtain ⟨hpl1, hpl2, hmx⟩ := vm_plain_all a ha1
    have hwm : ∀ w ∈ ((if vm_nest own x a then [] else [.methodLink own x (vm_y a)]) ++ [.static (vm_y a), .initialized (vm_y a).cls, .code (vm_y a) (vm_b a) (vm_mx a) (vm_rt a)] : List Jvm.Cond), w ∈ vm_tb := fun w hm => hw w (by
      show w ∈ (if a = 900 then _ else if a = 901 then _ else if a = 902 then _ else _)
      rw [if_neg (hn900 900 (by omega)), if_neg (hn900 901 (by omega)), if_neg (hn900 902 (by omega))]
      exact hm)
    have hlen : vm_npar (vm_y a) = some as.length := by rw [hpar, has]
    cases hnst : vm_nest own x a with
    | false =>
      rw [hnst] at hwm
      refine vm_goC (va_runS (As := as) (rest := st) ⟨hx, hb, hml, hown, htb⟩ hM ⟨callB_of as.length htb (vm_good (hwm _ (by simp))) rfl rfl rfl (htb _ (hwm _ (by simp))) (htb _ (hwm _ (by simp))) ⟨hpl1, hpl2, hlen⟩ (vm_ro_ok hfr hlo hmx), htb _ (hwm _ (by simp))⟩ ⟨vm_PM.blind, hPre⟩ rfl rfl rfl rfl (lv_room hsum) hd2 ⟨hcl, hsl⟩) hS ?_
      exact kk
    | true =>
      rw [hnst] at hwm
      obtain ⟨host, hq⟩ := vm_nest_of hnst
      refine vm_goC (va_runSN (As := as) (rest := st) (host := host) ⟨hx, hb, hml, hown, htb⟩ hM ⟨va_cnB as.length htb (vm_good (hwm _ (by simp))) rfl rfl rfl (hKE.2.1 _ hq) (htb _ (hwm _ (by simp))) ⟨hpl1, hpl2, hlen⟩ (vm_ro_ok hfr hlo hmx), htb _ (hwm _ (by simp)), trivial⟩ ⟨vm_PM.blind, hPre⟩ rfl rfl rfl rfl (lv_room hsum) hd2 ⟨hcl, hsl⟩) hS ?_
      exact kk
  · obtain ⟨rfl, hd2, hc⟩ := vm_c2 (k := 3) hk hd
    have hg : decide (a ≥ 900) = false := decide_eq_false (by omega)
    simp only [hg, Bool.false_or, Bool.and_eq_true, decide_eq_true_eq] at hc
    obtain ⟨ha1, hnm, hpar⟩ := hc
    obtain ⟨hpl1, hpl2, hmx⟩ := vm_plain_all a ha1
    have hwm : ∀ w ∈ ((if vm_nest own x a then [] else [.methodLink own x (vm_y a)]) ++ [.instanceMethod (vm_y a), .initialized (vm_y a).cls, .code (vm_y a) (vm_b a) (vm_mx a) (vm_rt a)] : List Jvm.Cond), w ∈ vm_tb := fun w hm => hw w (by
      show w ∈ (if a = 903 then _ else _)
      rw [if_neg (hn900 903 (by omega))]
      exact hm)
    have hlen : vm_npar (vm_y a) = some as'.length := by
      cases hp : vm_npar (vm_y a) with
      | none => rw [hp] at hpar; cases hpar
      | some z =>
        rw [hp] at hpar
        have hz : z + 1 = b := Option.some.inj hpar
        simp only [List.length_cons] at has
        congr 1
        omega
    have hst : (F0 m pc ls ((Value.ref o :: as').reverse ++ st)).stack = as'.reverse ++ .ref o :: st := by simp
    have hrt : vm_rt a = none := vm_rt_init a ha1 hnm
    rw [hrt] at hwm
    have hM2 : Met l (vm_y a) (vm_wsx (vm_y a) (vm_b a) (vm_mx a) none) (vm_ro d mc ms) (vm_PM D A n0 E (.ref o :: as') μ) (vm_QM D A n0 Qm) mc ms (fun q => n0 ≤ q) := by
      rw [← hrt]
      exact hM
    cases hnst : vm_nest own x a with
    | false =>
      rw [hnst] at hwm
      refine vm_goC (va_runI (As := as') (rest := st) (b := o) ⟨hx, hb, hml, hown, htb⟩ hM2 ⟨callB_of as'.length htb (vm_good (hwm _ (by simp))) rfl rfl rfl (htb _ (hwm _ (by simp))) (htb _ (hwm _ (by simp))) ⟨hpl1, hpl2, hlen⟩ (vm_ro_ok hfr hlo hmx), hnm, htb _ (hwm _ (by simp))⟩ ⟨vm_PM.blind, hPre⟩ rfl rfl rfl hst (lv_room hsum) hd2 ⟨hcl, hsl⟩) hS ?_
      exact kk
    | true =>
      rw [hnst] at hwm
      obtain ⟨host, hq⟩ := vm_nest_of hnst
      refine vm_goC (va_runIN (As := as') (rest := st) (b := o) (host := host) ⟨hx, hb, hml, hown, htb⟩ hM2 ⟨va_cnB as'.length htb (vm_good (hwm _ (by simp))) rfl rfl rfl (hKE.2.1 _ hq) (htb _ (hwm _ (by simp))) ⟨hpl1, hpl2, hlen⟩ (vm_ro_ok hfr hlo hmx), hnm, htb _ (hwm _ (by simp))⟩ ⟨vm_PM.blind, hPre⟩ rfl rfl rfl hst (lv_room hsum) hd2 ⟨hcl, hsl⟩) hS ?_
      exact kk
end FRM
