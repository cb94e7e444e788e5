/-! The small machine's steps are the machine's own: group by group. -/
section SND
variable {p : Program} {l : Launch} {e : Env} {R : Room} {s : State} {m : MethodId} {args : Array Value} {below : List Frame} {meth : Method} {c : Code} {H : Heap} {locs : List Loc} {cells slots : Nat} {Q : State → Prop}
variable {bb : ByteArray} {pc n a b : Nat} {kI : Int32} {kL : Int64} {i : Instr} {ls : Array Slot} {own : String} {ini : Bool} {rt : Option FieldType} {st st' : List Value}
theorem vm_c1 {k : Nat} (h : decide (n = pc + k) = true) (hd : decode bb pc = .ok (i, n - pc)) : n = pc + k ∧ decode bb pc = .ok (i, k) := by
  have h := of_decide_eq_true h
  subst h
  rw [Nat.add_sub_cancel_left] at hd
  exact ⟨rfl, hd⟩
theorem vm_s_pure (hx : p.tables.exec = Jvm.exec) (hb : c.code = bb) (hown : s.vm.findClass own = some m.cls) (hd : decode bb pc = .ok (i, n - pc)) (hk : vm_chk own ini rt (pc, i, n, a, b, kI, kL) = true)
    (hw : ∀ w ∈ vm_need own (pc, i, n, a, b, kI, kL), w.before args s = true) (h : vm_pure i a kI kL st st') (kk : W p l e R s m args below meth c H locs cells slots Q (F0 m n ls st')) : W p l e R s m args below meth c H locs cells slots Q (F0 m pc ls st) := by
  rcases h with ⟨h, rfl⟩ | ⟨h, rfl⟩ | ⟨x, y, r, rfl, h⟩ | ⟨x, y, r, rfl, h⟩ | ⟨x, r, rfl, h⟩ | ⟨x, r, rfl, rfl, rfl⟩ | ⟨x, y, r, rfl, rfl, rfl⟩ | ⟨v, r, hv, rfl, h⟩ | ⟨v, w, r, hv, hv2, rfl, rfl, rfl⟩
  · rcases h with ⟨z, rfl⟩ | ⟨z, rfl⟩ | ⟨z, rfl⟩ | ⟨x, rfl, rfl⟩ | ⟨x, rfl⟩
    · simp [vm_chk] at hk
      obtain ⟨rfl, hz⟩ := hk
      simp only [Nat.add_sub_cancel_left] at hd
      exact lv_iconst hx hb hd hz kk
    · simp [vm_chk] at hk
      obtain ⟨rfl, hz⟩ := hk
      simp only [Nat.add_sub_cancel_left] at hd
      exact lv_bipush hx hb hd hz kk
    · simp [vm_chk] at hk
      obtain ⟨rfl, hz⟩ := hk
      simp only [Nat.add_sub_cancel_left] at hd
      exact lv_sipush hx hb hd hz kk
    · obtain ⟨rfl, hd2⟩ := vm_c1 (k := 2) (Bool.and_eq_true_iff.mp hk).1 hd
      exact lv_ldc hx hb hown (hw (.constant own x kI) (by simp [vm_need])) hd2 kk
    · obtain ⟨rfl, hd2⟩ := vm_c1 (k := 3) hk hd
      exact lv_ldcw hx hb hown (hw (.constant own x kI) (by simp [vm_need])) hd2 kk
  · rcases h with ⟨z, rfl⟩ | ⟨x, rfl⟩
    · simp [vm_chk] at hk
      obtain ⟨rfl, hz⟩ := hk
      simp only [Nat.add_sub_cancel_left] at hd
      exact lv_lconst hx hb hd hz kk
    · obtain ⟨rfl, hd2⟩ := vm_c1 (k := 3) hk hd
      exact lv_ldc2 hx hb hown (hw (.constantLong own x kL) (by simp [vm_need])) hd2 kk
  · rcases h with ⟨rfl, rfl⟩ | ⟨rfl, rfl⟩ | ⟨rfl, rfl⟩ | ⟨rfl, h0, rfl⟩ | ⟨rfl, h0, rfl⟩ | ⟨rfl, rfl⟩ | ⟨rfl, rfl⟩ | ⟨rfl, rfl⟩ | ⟨rfl, rfl⟩ | ⟨rfl, rfl⟩ | ⟨rfl, rfl⟩ <;> (obtain ⟨rfl, hd2⟩ := vm_c1 (k := 1) hk hd)
    · exact lv_iadd hx hb hd2 kk
    · exact lv_isub hx hb hd2 kk
    · exact lv_imul hx hb hd2 kk
    · exact lv_idiv hx hb hd2 h0 kk
    · exact lv_irem hx hb hd2 h0 kk
    · exact lv_iand hx hb hd2 kk
    · exact lv_ior hx hb hd2 kk
    · exact lv_ixor hx hb hd2 kk
    · exact lv_ishl hx hb hd2 kk
    · exact lv_ishr hx hb hd2 kk
    · exact lv_iushr hx hb hd2 rfl kk
  · rcases h with ⟨rfl, rfl⟩ | ⟨rfl, rfl⟩ | ⟨rfl, h0, rfl⟩ | ⟨rfl, h0, rfl⟩ | ⟨rfl, rfl⟩ | ⟨rfl, rfl⟩ | ⟨rfl, rfl⟩ <;> (obtain ⟨rfl, hd2⟩ := vm_c1 (k := 1) hk hd)
    · exact lv_ladd hx hb hd2 kk
    · exact lv_lmul hx hb hd2 kk
    · exact lv_ldiv hx hb hd2 h0 kk
    · exact lv_lrem hx hb hd2 h0 kk
    · exact lv_land hx hb hd2 kk
    · exact lv_lor hx hb hd2 kk
    · exact W.lcmp hx hb hd2 kk
  · rcases h with ⟨rfl, rfl⟩ | ⟨rfl, rfl⟩ | ⟨rfl, rfl⟩ <;> (obtain ⟨rfl, hd2⟩ := vm_c1 (k := 1) hk hd)
    · exact lv_ineg hx hb hd2 kk
    · exact lv_i2l hx hb hd2 rfl kk
    · exact lv_i2c hx hb hd2 rfl kk
  · obtain ⟨rfl, hd2⟩ := vm_c1 (k := 1) hk hd
    exact lv_l2i hx hb hd2 rfl kk
  · obtain ⟨rfl, hd2⟩ := vm_c1 (k := 1) hk hd
    exact lv_lshl hx hb hd2 rfl kk
  · rcases h with ⟨rfl, rfl⟩ | ⟨rfl, rfl⟩ <;> (obtain ⟨rfl, hd2⟩ := vm_c1 (k := 1) hk hd)
    · exact lv_dup hx hb hd2 hv kk
    · exact lv_pop hx hb hd2 hv kk
  · obtain ⟨rfl, hd2⟩ := vm_c1 (k := 1) hk hd
    exact lv_dup2_11 hx hb hd2 hv hv2 kk
/-- the locals as a list: what isn't a second half or unset -/
def vm_real : Value → Bool
  | .retAddr _ => false
  | _ => true
def vm_lst (L : List Value) : List (Nat × Value) := (List.range L.length).filterMap fun i => match L[i]? with
  | some v => if vm_real v then some (i, v) else none
  | none => none
theorem vm_lst_mem {L : List Value} {q : Nat × Value} : q ∈ vm_lst L ↔ L[q.1]? = some q.2 ∧ vm_real q.2 = true := by
  unfold vm_lst
  rw [List.mem_filterMap]
  constructor
  · rintro ⟨j, hj, h⟩
    cases hL : L[j]? with
    | none => rw [hL] at h; cases h
    | some v =>
      rw [hL] at h
      by_cases hv : vm_real v = true
      · simp only [hv, if_true] at h
        cases h
        exact ⟨hL, hv⟩
      · simp only [hv] at h
        cases h
  · rintro ⟨h1, h2⟩
    refine ⟨q.1, List.mem_range.mpr (List.getElem?_eq_some_iff.mp h1).1, ?_⟩
    rw [h1]
    simp [h2]
abbrev vm_lh (ls : Array Slot) (nL : Nat) (L : List Value) : Prop := lv_has ls nL (vm_lst L)
theorem vm_lh.at {nL : Nat} {L : List Value} (h : vm_lh ls nL L) {j : Nat} {v : Value} (hj : L[j]? = some v) (hv : vm_real v = true) : ls[j]? = some (.val v) := h.2.2 (j, v) (vm_lst_mem.mpr ⟨hj, hv⟩)
theorem vm_lh.set {nL : Nat} {L : List Value} {ls' : Array Slot} {j : Nat} {x : Value} (hx : x.category = 1) (h : lv_has ls' nL ((j, x) :: (vm_lst L).filter (fun q => !(q.1 == j) && !(q.1 + 1 == j && q.2.category == 2)))) (hn : vm_nl L j) (hd : ∀ (k : Nat) (b : UInt64), L[k]? ≠ some (.double b)) : vm_lh ls' nL (L.set j x) := by
  refine ⟨h.1, h.2.1, fun q hq => ?_⟩
  obtain ⟨h1, h2⟩ := vm_lst_mem.mp hq
  by_cases hj : q.1 = j
  · have hl : j < L.length := by
      have := (List.getElem?_eq_some_iff.mp h1).1
      rw [List.length_set] at this
      omega
    rw [hj, List.getElem?_set_self hl] at h1
    have := h.2.2 (j, x) List.mem_cons_self
    rw [hj, ← Option.some.inj h1]
    exact this
  · rw [List.getElem?_set_ne (Ne.symm hj)] at h1
    refine h.2.2 q (List.mem_cons_of_mem _ (List.mem_filter.mpr ⟨vm_lst_mem.mpr ⟨h1, h2⟩, ?_⟩))
    have e1 : (q.1 == j) = false := by simpa using hj
    rw [e1]
    by_cases hc : q.1 + 1 = j ∧ q.2.category = 2
    · exfalso
      obtain ⟨c1, c2⟩ := hc
      cases hq2 : q.2 with
      | long y => rw [hq2] at h1; exact hn q.1 y c1.symm h1
      | double y => rw [hq2] at h1; exact hd q.1 y h1
      | _ => rw [hq2] at c2; cases c2
    · have : (q.1 + 1 == j && q.2.category == 2) = false := by
        rw [Bool.and_eq_false_iff]
        rcases Classical.not_and_iff_not_or_not.mp hc with z | z
        · exact Or.inl (by simpa using z)
        · exact Or.inr (by simpa using z)
      rw [this]
      rfl
theorem vm_lh.set2 {nL : Nat} {L : List Value} {ls' : Array Slot} {j : Nat} {x : Value} (hx : vm_real x = true) (h : lv_has ls' nL ((j, x) :: (vm_lst L).filter (fun q => !(q.1 == j) && (!(q.1 == j + 1) && !(q.1 + 1 == j && q.2.category == 2))))) (hn : vm_nl L j) (hd : ∀ (k : Nat) (b : UInt64), L[k]? ≠ some (.double b)) : vm_lh ls' nL ((L.set j x).set (j + 1) (.retAddr 0)) := by
  refine ⟨h.1, h.2.1, fun q hq => ?_⟩
  obtain ⟨h1, h2⟩ := vm_lst_mem.mp hq
  by_cases hj1 : q.1 = j + 1
  · have hl : j + 1 < (L.set j x).length := by
      have := (List.getElem?_eq_some_iff.mp h1).1
      rw [List.length_set] at this
      omega
    rw [hj1, List.getElem?_set_self hl] at h1
    rw [← Option.some.inj h1] at h2
    cases h2
  · rw [List.getElem?_set_ne (Ne.symm hj1)] at h1
    by_cases hj : q.1 = j
    · have hl : j < L.length := by
        have := (List.getElem?_eq_some_iff.mp h1).1
        rw [List.length_set] at this
        omega
      rw [hj, List.getElem?_set_self hl] at h1
      have := h.2.2 (j, x) List.mem_cons_self
      rw [hj, ← Option.some.inj h1]
      exact this
    · rw [List.getElem?_set_ne (Ne.symm hj)] at h1
      refine h.2.2 q (List.mem_cons_of_mem _ (List.mem_filter.mpr ⟨vm_lst_mem.mpr ⟨h1, h2⟩, ?_⟩))
      have e1 : (q.1 == j) = false := by simpa using hj
      have e2 : (q.1 == j + 1) = false := by simpa using hj1
      rw [e1, e2]
      by_cases hc : q.1 + 1 = j ∧ q.2.category = 2
      · exfalso
        obtain ⟨c1, c2⟩ := hc
        cases hq2 : q.2 with
        | long y => rw [hq2] at h1; exact hn q.1 y c1.symm h1
        | double y => rw [hq2] at h1; exact hd q.1 y h1
        | _ => rw [hq2] at c2; cases c2
      · have : (q.1 + 1 == j && q.2.category == 2) = false := by
          rw [Bool.and_eq_false_iff]
          rcases Classical.not_and_iff_not_or_not.mp hc with z | z
          · exact Or.inl (by simpa using z)
          · exact Or.inr (by simpa using z)
        rw [this]
        rfl
theorem vm_s_load {L : List Value} {nL : Nat} (hx : p.tables.exec = Jvm.exec) (hb : c.code = bb) (hd : decode bb pc = .ok (i, n - pc)) (hk : vm_chk own ini rt (pc, i, n, a, b, kI, kL) = true) (hl : vm_lh ls nL L)
    (h : vm_load L i a st st') (kk : W p l e R s m args below meth c H locs cells slots Q (F0 m n ls st')) : W p l e R s m args below meth c H locs cells slots Q (F0 m pc ls st) := by
  rcases h with ⟨x, h1, rfl, rfl | ⟨k, rfl, hk2⟩⟩ | ⟨x, h1, rfl, rfl | ⟨k, rfl, hk2⟩⟩ | ⟨x, h1, rfl, rfl | ⟨k, rfl, hk2⟩⟩
  · obtain ⟨rfl, hd2⟩ := vm_c1 (k := 2) hk hd
    exact lv_iload hx hb hd2 (hl.at h1 rfl) kk
  · obtain ⟨rfl, hd2⟩ := vm_c1 (k := 1) hk hd
    exact lv_iload_n hx hb hd2 hk2 (hl.at h1 rfl) kk
  · obtain ⟨rfl, hd2⟩ := vm_c1 (k := 2) hk hd
    exact lv_aload hx hb hd2 (hl.at h1 rfl) kk
  · obtain ⟨rfl, hd2⟩ := vm_c1 (k := 1) hk hd
    exact lv_aload_n hx hb hd2 hk2 (hl.at h1 rfl) kk
  · obtain ⟨rfl, hd2⟩ := vm_c1 (k := 2) hk hd
    exact lv_lload hx hb hd2 (hl.at h1 rfl) kk
  · obtain ⟨rfl, hd2⟩ := vm_c1 (k := 1) hk hd
    exact lv_lload_n hx hb hd2 hk2 (hl.at h1 rfl) kk
theorem vm_s_br {n' : Nat} (hx : p.tables.exec = Jvm.exec) (hb : c.code = bb) (hd : decode bb pc = .ok (i, n - pc)) (hk : vm_chk own ini rt (pc, i, n, a, b, kI, kL) = true)
    (h : vm_br pc i a n st st' n') (kk : W p l e R s m args below meth c H locs cells slots Q (F0 m n' ls st')) : W p l e R s m args below meth c H locs cells slots Q (F0 m pc ls st) := by
  rcases h with ⟨o, rfl, rfl, rfl⟩ | ⟨cd, o, x, rfl, rfl, h1, h2⟩ | ⟨cd, o, x, y, rfl, rfl, h1, h2⟩ | ⟨o, x, rfl, rfl, rfl⟩ | ⟨o, x, rfl, rfl, rfl⟩ | ⟨df, lo, hi, os, x, rfl, rfl, h⟩
  · simp [vm_chk] at hk
    obtain ⟨rfl, hz⟩ := hk
    simp only [Nat.add_sub_cancel_left] at hd
    exact lv_goto hx hb hd hz kk
  · simp [vm_chk] at hk
    obtain ⟨rfl, hz⟩ := hk
    simp only [Nat.add_sub_cancel_left] at hd
    cases cd
    · exact lv_if_eq hx hb hd hz (fun q => h1 q ▸ kk) (fun q => h2 q ▸ kk)
    · exact lv_if_ne hx hb hd hz (fun q => h1 q ▸ kk) (fun q => h2 (fun z => z q) ▸ kk)
    · exact lv_if_lt hx hb hd hz (fun q => h1 q ▸ kk) (fun q => h2 q ▸ kk)
    · exact lv_if_ge hx hb hd hz (fun q => h1 q ▸ kk) (fun q => h2 q ▸ kk)
    · exact lv_if_gt hx hb hd hz (fun q => h1 q ▸ kk) (fun q => h2 q ▸ kk)
    · exact lv_if_le hx hb hd hz (fun q => h1 q ▸ kk) (fun q => h2 q ▸ kk)
  · simp [vm_chk] at hk
    obtain ⟨rfl, hz⟩ := hk
    simp only [Nat.add_sub_cancel_left] at hd
    cases cd
    · exact lv_icmp_eq hx hb hd hz (fun q => h1 q ▸ kk) (fun q => h2 q ▸ kk)
    · exact lv_icmp_ne hx hb hd hz (fun q => h1 q ▸ kk) (fun q => h2 (fun z => z q) ▸ kk)
    · exact lv_icmp_lt hx hb hd hz (fun q => h1 q ▸ kk) (fun q => h2 q ▸ kk)
    · exact lv_icmp_ge hx hb hd hz (fun q => h1 q ▸ kk) (fun q => h2 q ▸ kk)
    · exact lv_icmp_gt hx hb hd hz (fun q => h1 q ▸ kk) (fun q => h2 q ▸ kk)
    · exact lv_icmp_le hx hb hd hz (fun q => h1 q ▸ kk) (fun q => h2 q ▸ kk)
  · simp [vm_chk] at hk
    obtain ⟨rfl, hz⟩ := hk
    simp only [Nat.add_sub_cancel_left] at hd
    exact lv_ifnonnull hx hb hd hz kk
  · simp [vm_chk] at hk
    obtain ⟨rfl, hz⟩ := hk
    simp only [Nat.add_sub_cancel_left] at hd
    exact lv_ifnull hx hb hd kk
  · rcases h with ⟨h1, h2⟩ | ⟨off, h1, h2, h3, h4⟩
    · exact lv_tableOut hx hb hd h1 h2 kk
    · exact lv_tableIn hx hb hd h1 h2 h3 h4 kk
theorem vm_s_store {L L' : List Value} {nL : Nat} (hx : p.tables.exec = Jvm.exec) (hb : c.code = bb) (hd : decode bb pc = .ok (i, n - pc)) (hk : vm_chk own ini rt (pc, i, n, a, b, kI, kL) = true) (hl : vm_lh ls nL L) (hn : L.length = nL) (hdb : ∀ (k : Nat) (b : UInt64), L[k]? ≠ some (.double b))
    (h : vm_store L i a kI st st' L') (kk : ∀ ls' : Array Slot, vm_lh ls' nL L' → W p l e R s m args below meth c H locs cells slots Q (F0 m n ls' st')) : W p l e R s m args below meth c H locs cells slots Q (F0 m pc ls st) := by
  obtain ⟨ha, hnl, h⟩ := h
  have ha' : a < nL := by omega
  rcases h with ⟨x, rfl, rfl, rfl | ⟨k, rfl, hk2⟩⟩ | ⟨x, rfl, rfl, rfl | ⟨k, rfl, hk2⟩⟩ | ⟨x, rfl, ha1, rfl, rfl | ⟨k, rfl, hk2⟩⟩ | ⟨x, z, rfl, h1, rfl, rfl⟩
  · obtain ⟨rfl, hd2⟩ := vm_c1 (k := 2) hk hd
    exact lv_istore hx hb hd2 hl ha' rfl (fun ls' h' => kk ls' (vm_lh.set rfl h' hnl hdb))
  · obtain ⟨rfl, hd2⟩ := vm_c1 (k := 1) hk hd
    exact lv_istore_n hx hb hd2 hk2 hl ha' rfl (fun ls' h' => kk ls' (vm_lh.set rfl h' hnl hdb))
  · obtain ⟨rfl, hd2⟩ := vm_c1 (k := 2) hk hd
    exact lv_astore hx hb hd2 hl ha' rfl (fun ls' h' => kk ls' (vm_lh.set rfl h' hnl hdb))
  · obtain ⟨rfl, hd2⟩ := vm_c1 (k := 1) hk hd
    exact lv_astore_n hx hb hd2 hk2 hl ha' rfl (fun ls' h' => kk ls' (vm_lh.set rfl h' hnl hdb))
  · obtain ⟨rfl, hd2⟩ := vm_c1 (k := 2) hk hd
    exact lv_lstore hx hb hd2 hl (by omega) rfl (fun ls' h' => kk ls' (vm_lh.set2 rfl h' hnl hdb))
  · obtain ⟨rfl, hd2⟩ := vm_c1 (k := 1) hk hd
    exact lv_lstore_n hx hb hd2 hk2 hl (by omega) rfl (fun ls' h' => kk ls' (vm_lh.set2 rfl h' hnl hdb))
  · simp [vm_chk] at hk
    obtain ⟨rfl, hz⟩ := hk
    simp only [Nat.add_sub_cancel_left] at hd
    have hm : (a, Value.int x) ∈ vm_lst L := vm_lst_mem.mpr ⟨h1, rfl⟩
    obtain ⟨j, hj⟩ := List.getElem?_of_mem hm
    exact lv_iinc (v := x + kI) hx hb hd hl hj (by rw [hz]) ha' rfl (fun ls' h' => kk ls' (vm_lh.set rfl h' hnl hdb))
end SND
