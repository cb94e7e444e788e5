/-! String.length() and charAt(int) of the text constant, by the JDK's own code. -/
def vm_yco : MethodName := ⟨"java/lang/String", "coder", "()B"⟩
def vm_yla : MethodName := ⟨"java/lang/String", "isLatin1", "()Z"⟩
def vm_yci : MethodName := ⟨"java/lang/String", "checkIndex", "(II)V"⟩
def vm_ypc : MethodName := ⟨"jdk/internal/util/Preconditions", "checkIndex", "(IILjava/util/function/BiFunction;)I"⟩
def vm_ylc : MethodName := ⟨"java/lang/StringLatin1", "charAt", "([BI)C"⟩
def vm_sws : List Jvm.Cond := [.fieldLink "java/lang/String" 38 "java/lang/String" "COMPACT_STRINGS" "Z", .fieldLink "java/lang/String" 15 "java/lang/String" "coder" "B", .fieldLink "java/lang/String" 9 "java/lang/String" "value" "[B",
  .methodLink "java/lang/String" 335 vm_yco, .instanceMethod vm_yco, .selects "java/lang/String" vm_yco vm_yco, .initialized "java/lang/String", .code vm_yco prog_13_method_152_code 1 (some .byte),
  .methodLink "java/lang/String" 492 vm_yla, .instanceMethod vm_yla, .selects "java/lang/String" vm_yla vm_yla, .code vm_yla prog_13_method_154_code 1 (some .boolean),
  .methodLink "java/lang/String" 495 vm_ylc, .static vm_ylc, .initialized "java/lang/StringLatin1", .code vm_ylc prog_14_method_2_code 2 (some .char),
  .methodLink "java/lang/StringLatin1" 9 vm_yci, .static vm_yci, .code vm_yci prog_13_method_155_code 2 none,
  .fieldLink "java/lang/String" 1053 "jdk/internal/util/Preconditions" "SIOOBE_FORMATTER" "Ljava/util/function/BiFunction;", .methodLink "java/lang/String" 1059 vm_ypc, .static vm_ypc, .initialized "jdk/internal/util/Preconditions", .code vm_ypc prog_17_method_11_code 3 (some .int),
  .code vm_yl prog_13_method_54_code 1 (some .int), .code vm_yc prog_13_method_56_code 2 (some .char)]
theorem vm_sws_in : ∀ w ∈ vm_sws, w ∈ vm_tb := by
  have h3 : vm_sws = [244, 1022, 1021, 240, 241, 242, 55, 243, 250, 251, 252, 253, 254, 255, 56, 256, 257, 258, 259, 260, 262, 263, 57, 264, 239, 249].filterMap (fun i => lw_tbl[i]?) := by decide +kernel
  have h4 : vm_sws.all goodWord = true := by decide +kernel
  intro w hw
  refine List.mem_filter.mpr ⟨?_, List.all_eq_true.mp h4 w hw⟩
  rw [h3] at hw
  obtain ⟨i, -, hi⟩ := List.mem_filterMap.mp hw
  first | exact List.mem_of_getElem? hi | exact List.getElem?_mem hi
theorem vm_sw (k : Nat) {w : Jvm.Cond} (h : vm_sws[k]? = some w) {args : Array Value} {s : State} (ht : ∀ w ∈ vm_tb, w.before args s = true) : w.before args s = true :=
  ht w (vm_sws_in w (by first | exact List.mem_of_getElem? h | exact List.getElem?_mem h))
abbrev vm_wsx (y : MethodName) (b : ByteArray) (n : Nat) (ret : Option FieldType) : List Jvm.Cond := Cond.code y b n ret :: vm_tb
theorem vm_good {y : MethodName} {b : ByteArray} {n : Nat} {ret : Option FieldType} (h : Cond.code y b n ret ∈ vm_tb) : GoodIn vm_tb (vm_wsx y b n ret) := by
  intro w hw
  have hm : w ∈ vm_tb := by
    rcases List.mem_cons.mp hw with rfl | hw
    · exact h
    · exact hw
  exact ⟨hm, good_of_word (List.mem_filter.mp hm).2⟩
abbrev vm_rm (d mc ms : Nat) : Room := { frames := d, cells := mc, slots := ms, locals := 64 * d }
theorem vm_KE.same {D : va_G} {A : Nat → ClassId} {n0 : Nat} {E : vm_V} {s U : State} (hv : U.vm = s.vm) (hh : U.heap = s.heap) (h : vm_KE D A n0 E s s.heap) : vm_KE D A n0 E U U.heap := by
  obtain ⟨h1, h2, h3, h4, h5, h6, h7, h8, h9⟩ := h
  have ha : s.vm.Alike U.vm := by rw [hv]; exact Vm.Alike.refl _
  rw [hh]
  exact ⟨va_K.moved ha h1, fun q hm => (h2 q hm).same rfl hv.symm, va_AO.moved ha h3, h4.moved ha, h5.same hv, h6.go ha (fun _ _ _ => rfl), va_X.moved ha h7, h8, h9⟩
def vm_PS (D : va_G) (A : Nat → ClassId) (n0 : Nat) (E : vm_V) (as : List Value) : Array Value → State → Prop := fun v U => v = as.toArray ∧ vm_KE D A n0 E U U.heap
def vm_QS (r : Option Value) : Array Value → State → Outcome → State → Prop := fun _ st o t => o = .returned r ∧ t.heap = st.heap
theorem vm_PS.blind {D : va_G} {A : Nat → ClassId} {n0 : Nat} {E : vm_V} {as : List Value} : FrameBlind (vm_PS D A n0 E as) := fun a U g mk q => ⟨q.1, vm_KE.same (s := U) (U := U.calling g mk a) rfl rfl q.2⟩
theorem vm_txt_c : ∀ k, k < 72 → ((vm_txt.getD k 0 &&& 255).toUInt32 % 65536).toInt32 = vm_txt.getD k 0 ∧ narrow .char (.int (vm_txt.getD k 0)) = .int (vm_txt.getD k 0) := by decide +kernel
theorem vd_ci5 : decode prog_13_method_155_code 5 = .ok (.invokestatic 1059, 3) := by decide +kernel
theorem vd_lc3 : decode prog_14_method_2_code 3 = .ok (.invokestatic 9, 3) := by decide +kernel
theorem vd_ln6 : decode prog_13_method_54_code 6 = .ok (.invokevirtual 335, 3) := by decide +kernel
theorem vd_ca1 : decode prog_13_method_56_code 1 = .ok (.invokevirtual 492, 3) := by decide +kernel
theorem vd_ca12 : decode prog_13_method_56_code 12 = .ok (.invokestatic 495, 3) := by decide +kernel
section STR
variable {p : Program} {l : Launch} {e : Env} {R : Room} {s : State} {m : MethodId} {args : Array Value} {below : List Frame} {meth : Method} {c : Code} {H : Heap} {locs : List Loc} {cells slots : Nat} {Q : State → Prop}
theorem vm_goS {pc : Nat} {ls : Array Slot} {st0 rest : List Value} {r : Option Value} {as : Array Value} (hr : va_Run p l e R s m args below meth c H locs cells slots 0 0 (F0 m pc ls st0) rest (vm_QS r as) (fun _ => False))
    (kk : W p l e R s m args below meth c H locs cells slots Q (F0 m (pc + 3) ls (r.toList ++ rest))) : W p l e R s m args below meth c H locs cells slots Q (F0 m pc ls st0) := by
  intro T hT X
  obtain ⟨v, st₀, t, T', L, h0, X', hL, e1, e2, ⟨hv, hq⟩, st⟩ := hr T hT X
  cases hv
  have hL0 : L = [] := by
    cases L with
    | nil => rfl
    | cons x y => exact (hL x List.mem_cons_self).elim
  subst hL0
  rw [List.append_nil] at X'
  obtain ⟨t2, a1, b1⟩ := kk T' (by rw [e1, hq, h0]) X'
  exact ⟨t2, st t2 a1, b1⟩
variable {D : va_G} {A : Nat → ClassId} {n0 : Nat} {E : vm_V}
theorem vm_m_coder (l : Launch) : Met l vm_yco (vm_wsx vm_yco prog_13_method_152_code 1 (some .byte)) (vm_rm 1 0 0) (vm_PS D A n0 E [.ref E.1]) (vm_QS (some (.int 0))) 0 0 (fun _ => False) := by
  refine Met.ofW (cc := prog_13_method_152_code) (maxL := 1) (ret := some .byte) (by decide) rfl ?_
  intro p e s m args below meth c s₁ B hml hv
  obtain ⟨rfl, hKE⟩ := hv
  have hx := B.exec
  have hb := B.bytes
  have hr := B.returns
  have hts := atoms_spec (ws := vm_wsx vm_yco prog_13_method_152_code 1 (some .byte)) B.pre
  have htb : ∀ w ∈ vm_tb, w.before _ s = true := fun w h => hts w (List.mem_cons_of_mem _ h)
  have hown : s.vm.findClass "java/lang/String" = some m.cls := findClass_of_methodNamed B.named
  have hlocks := B.notSynchronized
  obtain ⟨-, -, -, -, -, ⟨⟨adV, hK⟩, hZ, -⟩, -⟩ := hKE
  have hS : va_S (fun q => n0 ≤ q) s.heap s.heap [] := va_S.rf
  have hl := lv_entry ([.ref E.1]) (n := 1) (Nat.le_of_ble_eq_true rfl)
  rw [lg_entry_eq]
  generalize (lg_sl ([.ref E.1]) ++ List.replicate (1 - (lg_sl ([.ref E.1])).length) Slot.unset).toArray = ls at hl ⊢
  have hl : lv_has ls 1 [(0, .ref E.1)] := hl
  refine va_gets (index := 38) hx hb hZ hS hown (vm_sw 0 rfl htb) (fun _ h => h) (by decide +kernel) ?_
  refine lv_if_eq (tgt := 13) (off := 10) hx hb (by decide +kernel) (by decide) (fun q => absurd q (by decide)) (fun _ => ?_)
  refine lv_aload_n (k := 0) hx hb (by decide +kernel) rfl (lv_at hl 0 rfl) ?_
  refine vk_getf (index := 15) hx hb (hK.1 0 (by decide)).2.1 hS hown (vm_sw 1 rfl htb) (fun _ h => h) (by decide +kernel) ?_
  refine lv_goto (tgt := 14) (off := 4) hx hb (by decide +kernel) (by decide) ?_
  exact W.zret (v := 0) hx hb hr rfl (fun t ht hW => ⟨rfl, ht⟩) (fun q h => by cases h) (by decide +kernel)
theorem vm_m_isLatin1 (l : Launch) : Met l vm_yla (vm_wsx vm_yla prog_13_method_154_code 1 (some .boolean)) (vm_rm 1 0 0) (vm_PS D A n0 E [.ref E.1]) (vm_QS (some (.int 1))) 0 0 (fun _ => False) := by
  refine Met.ofW (cc := prog_13_method_154_code) (maxL := 1) (ret := some .boolean) (by decide) rfl ?_
  intro p e s m args below meth c s₁ B hml hv
  obtain ⟨rfl, hKE⟩ := hv
  have hx := B.exec
  have hb := B.bytes
  have hr := B.returns
  have hts := atoms_spec (ws := vm_wsx vm_yla prog_13_method_154_code 1 (some .boolean)) B.pre
  have htb : ∀ w ∈ vm_tb, w.before _ s = true := fun w h => hts w (List.mem_cons_of_mem _ h)
  have hown : s.vm.findClass "java/lang/String" = some m.cls := findClass_of_methodNamed B.named
  have hlocks := B.notSynchronized
  obtain ⟨-, -, -, -, -, ⟨⟨adV, hK⟩, hZ, -⟩, -⟩ := hKE
  have hS : va_S (fun q => n0 ≤ q) s.heap s.heap [] := va_S.rf
  have hl := lv_entry ([.ref E.1]) (n := 1) (Nat.le_of_ble_eq_true rfl)
  rw [lg_entry_eq]
  generalize (lg_sl ([.ref E.1]) ++ List.replicate (1 - (lg_sl ([.ref E.1])).length) Slot.unset).toArray = ls at hl ⊢
  have hl : lv_has ls 1 [(0, .ref E.1)] := hl
  refine va_gets (index := 38) hx hb hZ hS hown (vm_sw 0 rfl htb) (fun _ h => h) (by decide +kernel) ?_
  refine lv_if_eq (tgt := 17) (off := 14) hx hb (by decide +kernel) (by decide) (fun q => absurd q (by decide)) (fun _ => ?_)
  refine lv_aload_n (k := 0) hx hb (by decide +kernel) rfl (lv_at hl 0 rfl) ?_
  refine vk_getf (index := 15) hx hb (hK.1 0 (by decide)).2.1 hS hown (vm_sw 1 rfl htb) (fun _ h => h) (by decide +kernel) ?_
  refine lv_if_ne (tgt := 17) (off := 7) hx hb (by decide +kernel) (by decide) (fun q => absurd rfl q) (fun _ => ?_)
  refine lv_iconst (n := 1) (v := 1) hx hb (by decide +kernel) (by decide) ?_
  refine lv_goto (tgt := 18) (off := 4) hx hb (by decide +kernel) (by decide) ?_
  exact W.zret (v := 1) hx hb hr rfl (fun t ht hW => ⟨rfl, ht⟩) (fun q h => by cases h) (by decide +kernel)
theorem vm_m_pcheck (l : Launch) (k : Nat) (hk : k < 72) (f : Value) (hf : f = .null ∨ ∃ t, f = .ref t) : Met l vm_ypc (vm_wsx vm_ypc prog_17_method_11_code 3 (some .int)) (vm_rm 1 0 0) (vm_PS D A n0 E [.int (nI k), .int 72, f]) (vm_QS (some (.int (nI k)))) 0 0 (fun _ => False) := by
  refine Met.ofW (cc := prog_17_method_11_code) (maxL := 3) (ret := some .int) (by decide) rfl ?_
  intro p e s m args below meth c s₁ B hml hv
  obtain ⟨rfl, hKE⟩ := hv
  have hx := B.exec
  have hb := B.bytes
  have hr := B.returns
  have hlocks := B.notSynchronized
  have hc : f.category = 1 := by rcases hf with rfl | ⟨t, rfl⟩ <;> rfl
  have hl := lv_entry ([.int (nI k), .int 72, f]) (n := 3) (by rcases hf with rfl | ⟨t, rfl⟩ <;> exact Nat.le_of_ble_eq_true rfl)
  rw [lg_entry_eq]
  generalize (lg_sl ([.int (nI k), .int 72, f]) ++ List.replicate (3 - (lg_sl ([.int (nI k), .int 72, f])).length) Slot.unset).toArray = ls at hl ⊢
  have hl : lv_has ls 3 [(0, .int (nI k)), (1, .int 72), (2, f)] := hl
  refine lv_iload_n (k := 0) hx hb (by decide +kernel) rfl (lv_at hl 0 rfl) ?_
  refine lv_if_lt (tgt := 9) (off := 8) hx hb (by decide +kernel) (by decide) (fun q => absurd q (nI_pos (by omega))) (fun _ => ?_)
  refine lv_iload_n (k := 0) hx hb (by decide +kernel) rfl (lv_at hl 0 rfl) ?_
  refine lv_iload_n (k := 1) hx hb (by decide +kernel) rfl (lv_at hl 1 rfl) ?_
  refine lv_icmp_lt (tgt := 16) (off := 10) hx hb (by decide +kernel) (by decide) (fun _ => ?_) (fun q => absurd (nI_lt (a := k) (b := 72) hk (by omega)) q)
  refine lv_iload_n (k := 0) hx hb (by decide +kernel) rfl (lv_at hl 0 rfl) ?_
  exact W.iret (v := nI k) hx hb hr (fun t ht hW => ⟨rfl, ht⟩) (fun q h => by cases h) (by decide +kernel)
theorem vm_m_check (l : Launch) (k : Nat) (hk : k < 72) : Met l vm_yci (vm_wsx vm_yci prog_13_method_155_code 2 none) (vm_rm 2 0 0) (vm_PS D A n0 E [.int (nI k), .int 72]) (vm_QS none) 0 0 (fun _ => False) := by
  refine Met.ofW (cc := prog_13_method_155_code) (maxL := 2) (ret := none) (by decide) rfl ?_
  intro p e s m args below meth c s₁ B hml hv
  obtain ⟨rfl, hKE⟩ := hv
  have hx := B.exec
  have hb := B.bytes
  have hr := B.returns
  have hts := atoms_spec (ws := vm_wsx vm_yci prog_13_method_155_code 2 none) B.pre
  have htb : ∀ w ∈ vm_tb, w.before _ s = true := fun w h => hts w (List.mem_cons_of_mem _ h)
  have hown : s.vm.findClass "java/lang/String" = some m.cls := findClass_of_methodNamed B.named
  have hlocks := B.notSynchronized
  have hS : va_S (fun q => n0 ≤ q) s.heap s.heap [] := va_S.rf
  have hl := lv_entry ([.int (nI k), .int 72]) (n := 2) (Nat.le_of_ble_eq_true rfl)
  rw [lg_entry_eq]
  generalize (lg_sl ([.int (nI k), .int 72]) ++ List.replicate (2 - (lg_sl ([.int (nI k), .int 72])).length) Slot.unset).toArray = ls at hl ⊢
  have hl : lv_has ls 2 [(0, .int (nI k)), (1, .int 72)] := hl
  refine lv_iload_n (k := 0) hx hb (by decide +kernel) rfl (lv_at hl 0 rfl) ?_
  refine lv_iload_n (k := 1) hx hb (by decide +kernel) rfl (lv_at hl 1 rfl) ?_
  have key : ∀ f : Value, (f = .null ∨ ∃ t, f = .ref t) → va_Z "jdk/internal/util/Preconditions" "SIOOBE_FORMATTER" "Ljava/util/function/BiFunction;" f (fun q => n0 ≤ q) s s.heap → W p l e (vm_rm 2 0 0) s m ([.int (nI k), .int 72] : List Value).toArray below meth c s.heap [] 0 0 (MQ below (vm_QS none) ([.int (nI k), .int 72] : List Value).toArray s 0 0 (fun _ => False)) (F0 m 2 ls [.int 72, .int (nI k)]) := by
    intro f hf hZ
    have hc : f.category = 1 := by rcases hf with rfl | ⟨t, rfl⟩ <;> rfl
    refine va_gets (index := 1053) hx hb hZ hS hown (vm_sw 19 rfl htb) (fun _ h => h) (by decide +kernel) ?_
    refine vm_goS (va_runS (As := [.int (nI k), .int 72, f]) (rest := []) ⟨hx, hb, hml, hown, htb⟩ (vm_m_pcheck (D := D) (A := A) (n0 := n0) (E := E) l k hk f hf) ⟨callB_of 3 htb (vm_good (vm_sws_in _ (List.mem_of_getElem? (i := 23) rfl))) rfl rfl rfl (vm_sw 22 rfl htb) (vm_sw 20 rfl htb) (by decide +kernel) ⟨by decide, by decide⟩, vm_sw 21 rfl htb⟩ ⟨vm_PS.blind, fun U hU hW => ⟨rfl, by rw [hU]; exact vm_KE.go hW (Nat.le_refl _) (fun _ _ _ => rfl) hKE⟩⟩ rfl rfl hl.1 rfl (lv_room (Nat.le_of_ble_eq_true rfl)) vd_ci5 ⟨Nat.le_refl _, Nat.le_refl _⟩) ?_
    refine lv_pop (va := .int (nI k)) hx hb (by decide +kernel) rfl ?_
    exact W.vret hx hb hr (fun t ht hW => ⟨rfl, ht⟩) (fun q h => by cases h) (by decide +kernel)
  obtain ⟨-, -, -, -, -, ⟨-, -, hZ⟩, -⟩ := id hKE
  rcases hZ with hZ | ⟨t, hZ⟩
  · exact key .null (Or.inl rfl) hZ
  · exact key (.ref t) (Or.inr ⟨t, rfl⟩) hZ
def vm_PT (D : va_G) (A : Nat → ClassId) (n0 : Nat) (E : vm_V) (q : Nat) (as : List Value) : Array Value → State → Prop := fun v U => v = as.toArray ∧ vm_KE D A n0 E U U.heap ∧ va_T .byte q 72 (fun j => .int (vm_txt.getD j 0)) (fun q => n0 ≤ q) U U.heap
theorem vm_m_lchar (l : Launch) (q k : Nat) (hk : k < 72) : Met l vm_ylc (vm_wsx vm_ylc prog_14_method_2_code 2 (some .char)) (vm_rm 3 0 0) (vm_PT D A n0 E q [.ref q, .int (nI k)]) (vm_QS (some (.int (vm_txt.getD k 0)))) 0 0 (fun _ => False) := by
  refine Met.ofW (cc := prog_14_method_2_code) (maxL := 2) (ret := some .char) (by decide) rfl ?_
  intro p e s m args below meth c s₁ B hml hv
  obtain ⟨rfl, hKE, hT⟩ := hv
  have hx := B.exec
  have hb := B.bytes
  have hr := B.returns
  have hts := atoms_spec (ws := vm_wsx vm_ylc prog_14_method_2_code 2 (some .char)) B.pre
  have htb : ∀ w ∈ vm_tb, w.before _ s = true := fun w h => hts w (List.mem_cons_of_mem _ h)
  have hown : s.vm.findClass "java/lang/StringLatin1" = some m.cls := findClass_of_methodNamed B.named
  have hlocks := B.notSynchronized
  have hS : va_S (fun q => n0 ≤ q) s.heap s.heap [] := va_S.rf
  have hl := lv_entry ([.ref q, .int (nI k)]) (n := 2) (Nat.le_of_ble_eq_true rfl)
  rw [lg_entry_eq]
  generalize (lg_sl ([.ref q, .int (nI k)]) ++ List.replicate (2 - (lg_sl ([.ref q, .int (nI k)])).length) Slot.unset).toArray = ls at hl ⊢
  have hl : lv_has ls 2 [(0, .ref q), (1, .int (nI k))] := hl
  refine lv_iload_n (k := 1) hx hb (by decide +kernel) rfl (lv_at hl 1 rfl) ?_
  refine lv_aload_n (k := 0) hx hb (by decide +kernel) rfl (lv_at hl 0 rfl) ?_
  refine va_tlen (v := 72) hx hb hT hS rfl (by decide +kernel) ?_
  refine vm_goS (va_runS (As := [.int (nI k), .int 72]) (rest := []) ⟨hx, hb, hml, hown, htb⟩ (vm_m_check (D := D) (A := A) (n0 := n0) (E := E) l k hk) ⟨callB_of 2 htb (vm_good (vm_sws_in _ (List.mem_of_getElem? (i := 18) rfl))) rfl rfl rfl (vm_sw 6 rfl htb) (vm_sw 16 rfl htb) (by decide +kernel) ⟨by decide, by decide⟩, vm_sw 17 rfl htb⟩ ⟨vm_PS.blind, fun U hU hW => ⟨rfl, by rw [hU]; exact vm_KE.go hW (Nat.le_refl _) (fun _ _ _ => rfl) hKE⟩⟩ rfl rfl hl.1 rfl (lv_room (Nat.le_of_ble_eq_true rfl)) vd_lc3 ⟨Nat.le_refl _, Nat.le_refl _⟩) ?_
  refine lv_aload_n (k := 0) hx hb (by decide +kernel) rfl (lv_at hl 0 rfl) ?_
  refine lv_iload_n (k := 1) hx hb (by decide +kernel) rfl (lv_at hl 1 rfl) ?_
  refine va_tb hx hb hT hS (vp_in_nI hk (by omega)) (v := .int (vm_txt.getD k 0)) (by rw [nI_clamp (by omega)]) (by decide +kernel) ?_
  refine lv_sipush (n := 255) (v := 255) hx hb (by decide +kernel) (by decide) ?_
  refine lv_iand hx hb (by decide +kernel) ?_
  refine lv_i2c (v := vm_txt.getD k 0) hx hb (by decide +kernel) (vm_txt_c k hk).1 ?_
  exact W.zret (v := vm_txt.getD k 0) hx hb hr (vm_txt_c k hk).2 (fun t ht hW => ⟨rfl, ht⟩) (fun q h => by cases h) (by decide +kernel)
theorem vm_m_length (l : Launch) : Met l vm_yl (vm_wsx vm_yl prog_13_method_54_code 1 (some .int)) (vm_rm 2 0 0) (vm_PS D A n0 E [.ref E.1]) (vm_QS (some (.int (nI 72)))) 0 0 (fun _ => False) := by
  refine Met.ofW (cc := prog_13_method_54_code) (maxL := 1) (ret := some .int) (by decide) rfl ?_
  intro p e s m args below meth c s₁ B hml hv
  obtain ⟨rfl, hKE⟩ := hv
  have hx := B.exec
  have hb := B.bytes
  have hr := B.returns
  have hts := atoms_spec (ws := vm_wsx vm_yl prog_13_method_54_code 1 (some .int)) B.pre
  have htb : ∀ w ∈ vm_tb, w.before _ s = true := fun w h => hts w (List.mem_cons_of_mem _ h)
  have hown : s.vm.findClass "java/lang/String" = some m.cls := findClass_of_methodNamed B.named
  have hlocks := B.notSynchronized
  obtain ⟨-, -, -, -, -, ⟨⟨adV, hK⟩, hZ, -⟩, -⟩ := id hKE
  have hS : va_S (fun q => n0 ≤ q) s.heap s.heap [] := va_S.rf
  have hl := lv_entry ([.ref E.1]) (n := 1) (Nat.le_of_ble_eq_true rfl)
  rw [lg_entry_eq]
  generalize (lg_sl ([.ref E.1]) ++ List.replicate (1 - (lg_sl ([.ref E.1])).length) Slot.unset).toArray = ls at hl ⊢
  have hl : lv_has ls 1 [(0, .ref E.1)] := hl
  refine lv_aload_n (k := 0) hx hb (by decide +kernel) rfl (lv_at hl 0 rfl) ?_
  refine vk_getf (index := 9) hx hb (hK.1 0 (by decide)).2.2.1 hS hown (vm_sw 2 rfl htb) (fun _ h => h) (by decide +kernel) ?_
  refine va_tlen (v := 72) hx hb (hK.1 0 (by decide)).2.2.2 hS rfl (by decide +kernel) ?_
  refine lv_aload_n (k := 0) hx hb (by decide +kernel) rfl (lv_at hl 0 rfl) ?_
  refine vm_goS (va_runV (As := []) (rest := [.int 72]) ⟨hx, hb, hml, hown, htb⟩ (vm_m_coder (D := D) (A := A) (n0 := n0) (E := E) l) ⟨callB_of 0 htb (vm_good (vm_sws_in _ (List.mem_of_getElem? (i := 7) rfl))) rfl rfl rfl (vm_sw 6 rfl htb) (vm_sw 3 rfl htb) (by decide +kernel) ⟨by decide, by decide⟩, vm_sw 4 rfl htb, vm_sw 5 rfl htb⟩ ⟨vm_PS.blind, vk_recv (i := 0) hK (by decide) hS, fun U hU hW => ⟨rfl, by rw [hU]; exact vm_KE.go hW (Nat.le_refl _) (fun _ _ _ => rfl) hKE⟩⟩ rfl rfl hl.1 rfl (lv_room (Nat.le_of_ble_eq_true rfl)) vd_ln6 ⟨Nat.le_refl _, Nat.le_refl _⟩) ?_
  refine lv_ishr hx hb (by decide +kernel) ?_
  exact W.iret (v := 72) hx hb hr (fun t ht hW => ⟨rfl, ht⟩) (fun q h => by cases h) (by decide +kernel)
theorem vm_m_charAt (l : Launch) (k : Nat) (hk : k < 72) : Met l vm_yc (vm_wsx vm_yc prog_13_method_56_code 2 (some .char)) (vm_rm 4 0 0) (vm_PS D A n0 E [.ref E.1, .int (nI k)]) (vm_QS (some (.int (vm_txt.getD k 0)))) 0 0 (fun _ => False) := by
  refine Met.ofW (cc := prog_13_method_56_code) (maxL := 2) (ret := some .char) (by decide) rfl ?_
  intro p e s m args below meth c s₁ B hml hv
  obtain ⟨rfl, hKE⟩ := hv
  have hx := B.exec
  have hb := B.bytes
  have hr := B.returns
  have hts := atoms_spec (ws := vm_wsx vm_yc prog_13_method_56_code 2 (some .char)) B.pre
  have htb : ∀ w ∈ vm_tb, w.before _ s = true := fun w h => hts w (List.mem_cons_of_mem _ h)
  have hown : s.vm.findClass "java/lang/String" = some m.cls := findClass_of_methodNamed B.named
  have hlocks := B.notSynchronized
  obtain ⟨-, -, -, -, -, ⟨⟨adV, hK⟩, hZ, -⟩, -⟩ := id hKE
  have hS : va_S (fun q => n0 ≤ q) s.heap s.heap [] := va_S.rf
  have hl := lv_entry ([.ref E.1, .int (nI k)]) (n := 2) (Nat.le_of_ble_eq_true rfl)
  rw [lg_entry_eq]
  generalize (lg_sl ([.ref E.1, .int (nI k)]) ++ List.replicate (2 - (lg_sl ([.ref E.1, .int (nI k)])).length) Slot.unset).toArray = ls at hl ⊢
  have hl : lv_has ls 2 [(0, .ref E.1), (1, .int (nI k))] := hl
  refine lv_aload_n (k := 0) hx hb (by decide +kernel) rfl (lv_at hl 0 rfl) ?_
  refine vm_goS (va_runV (As := []) (rest := []) ⟨hx, hb, hml, hown, htb⟩ (vm_m_isLatin1 (D := D) (A := A) (n0 := n0) (E := E) l) ⟨callB_of 0 htb (vm_good (vm_sws_in _ (List.mem_of_getElem? (i := 11) rfl))) rfl rfl rfl (vm_sw 6 rfl htb) (vm_sw 8 rfl htb) (by decide +kernel) ⟨by decide, by decide⟩, vm_sw 9 rfl htb, vm_sw 10 rfl htb⟩ ⟨vm_PS.blind, vk_recv (i := 0) hK (by decide) hS, fun U hU hW => ⟨rfl, by rw [hU]; exact vm_KE.go hW (Nat.le_refl _) (fun _ _ _ => rfl) hKE⟩⟩ rfl rfl hl.1 rfl (lv_room (Nat.le_of_ble_eq_true rfl)) vd_ca1 ⟨Nat.le_refl _, Nat.le_refl _⟩) ?_
  refine lv_if_eq (x := 1) (tgt := 16) (off := 12) hx hb (by decide +kernel) (by decide) (fun q => absurd q (by decide)) (fun _ => ?_)
  refine lv_aload_n (k := 0) hx hb (by decide +kernel) rfl (lv_at hl 0 rfl) ?_
  refine vk_getf (index := 9) hx hb (hK.1 0 (by decide)).2.2.1 hS hown (vm_sw 2 rfl htb) (fun _ h => h) (by decide +kernel) ?_
  refine lv_iload_n (k := 1) hx hb (by decide +kernel) rfl (lv_at hl 1 rfl) ?_
  refine vm_goS (va_runS (As := [.ref (adV 0), .int (nI k)]) (rest := []) ⟨hx, hb, hml, hown, htb⟩ (vm_m_lchar (D := D) (A := A) (n0 := n0) (E := E) l (adV 0) k hk) ⟨callB_of 2 htb (vm_good (vm_sws_in _ (List.mem_of_getElem? (i := 15) rfl))) rfl rfl rfl (vm_sw 14 rfl htb) (vm_sw 12 rfl htb) (by decide +kernel) ⟨by decide, by decide⟩, vm_sw 13 rfl htb⟩
    ⟨fun a U g mk q => ⟨q.1, vm_KE.same (s := U) (U := U.calling g mk a) rfl rfl q.2.1, va_T.moved (u := U) (U := U.calling g mk a) (Vm.Alike.refl U.vm) q.2.2⟩, fun U hU hW => ⟨rfl, by rw [hU]; exact vm_KE.go hW (Nat.le_refl _) (fun _ _ _ => rfl) hKE, by rw [hU]; exact va_T.moved hW.alike (hK.1 0 (by decide)).2.2.2⟩⟩ rfl rfl hl.1 rfl (lv_room (Nat.le_of_ble_eq_true rfl)) vd_ca12 ⟨Nat.le_refl _, Nat.le_refl _⟩) ?_
  exact W.zret (v := vm_txt.getD k 0) hx hb hr (vm_txt_c k hk).2 (fun t ht hW => ⟨rfl, ht⟩) (fun q h => by cases h) (by decide +kernel)
end STR
