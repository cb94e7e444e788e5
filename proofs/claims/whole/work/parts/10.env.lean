/-! What stands around the small memory and stays: classes, links, the text constant, statics, the script. -/
def vm_aoa (U : State) : Prop := (Cond.arrayOver (.array .int)).before #[] U = true
theorem vm_aoa.moved {u U : State} (hvm : u.vm.Alike U.vm) (h : vm_aoa u) : vm_aoa U := by
  obtain ⟨comp, c, k, h1, h2, h3, h4, h5⟩ := arrayOverA_spec h
  obtain ⟨k', hk', he⟩ := hvm.2.2 _ _ h3
  have hi : (U.vm.classes.findIdx? fun (x : Class) => match x.kind with | .array component _ => component == comp | _ => false) = some c := by
    have e1 := va_idx_bare U.vm comp
    have e2 := va_idx_bare u.vm comp
    refine e1.symm.trans ?_
    first | rw [hvm.bare_eq] | rw [← hvm.bare_eq]
    exact e2.trans h2
  have hkind : k'.kind = .array comp (.array .int) := by rw [he]; exact h4
  have f1 : U.vm.findClass (FieldType.array .int).toString = some comp := by rw [hvm.findClass]; exact h1
  have f2 : U.vm.findClass ("[" ++ (FieldType.array .int).toString) = some c := by rw [hvm.findClass]; exact h5
  unfold vm_aoa Cond.before Cond.holds
  simp only [Cond.value]
  rw [f1, Option.bind_some]
  refine (congrArg (fun o : Option Nat => (o.bind (fun c => (U.vm.classes[c]?).map fun (k : Class) => match k.kind with | .array _ ty => decide (ty = FieldType.array .int) && decide (U.vm.findClass ("[" ++ (FieldType.array .int).toString) = some c) | _ => false) == some true)) hi).trans ?_
  simp [hk', hkind, f2]
def vm_tx : String := "g0,4,01234;g1,3,31230;g2,5,00555;g3,8,12321;p01333;p55000;p02244;p31212;"
def vm_KS (n0 : Nat) (E : vm_V) (U : State) (H : Heap) : Prop :=
  (∃ adV : Nat → Nat, vk_S 1 [72] [vm_txt] (fun _ => E.1) adV (fun q => n0 ≤ q) U H) ∧ va_Z "java/lang/String" "COMPACT_STRINGS" "Z" (.int 1) (fun q => n0 ≤ q) U H ∧ va_Zq "jdk/internal/util/Preconditions" "SIOOBE_FORMATTER" "Ljava/util/function/BiFunction;" (fun q => n0 ≤ q) U H
def vm_KE (D : va_G) (A : Nat → ClassId) (n0 : Nat) (E : vm_V) (U : State) (H : Heap) : Prop :=
  va_K D vm_cls (vm_tys A) U ∧ (∀ q ∈ vm_nests, va_Nw (.methodLinkNest q.1 q.2.1 (vm_y q.2.2.1) q.2.2.2) U) ∧ va_AO "GateSayings$Town" U ∧ vm_aoa U ∧ vk_R "GateSayings" 59 vm_tx E.1 U ∧ vm_KS n0 E U H ∧ va_X E.2.1 E.2.2.1 E.2.2.2 U H ∧ E.2.1 < n0 ∧ n0 ≤ H.size
theorem vm_KS.go {n0 : Nat} {E : vm_V} {s U : State} {H0 H : Heap} (hW : s.vm.Alike U.vm) (hq : ∀ q : Nat, q < H0.size → ¬ n0 ≤ q → H[q]? = H0[q]?) (h : vm_KS n0 E s H0) : vm_KS n0 E U H := by
  obtain ⟨⟨adV, h1⟩, h2, h3⟩ := h
  exact ⟨⟨adV, (vk_S.moved hW h1).kept hq⟩, (va_Z.moved hW h2).kept hq, (va_Zq.moved hW h3).kept hq⟩
theorem vm_KE.go {D : va_G} {A : Nat → ClassId} {n0 : Nat} {E : vm_V} {s U : State} {H0 H : Heap} (hW : s.WarmedH U.vm) (hz : H0.size ≤ H.size) (hq : ∀ q : Nat, q < H0.size → ¬ n0 ≤ q → H[q]? = H0[q]?) (h : vm_KE D A n0 E s H0) : vm_KE D A n0 E U H := by
  obtain ⟨h1, h2, h3, h4, h5, h6, h7, h8, h9⟩ := h
  exact ⟨va_K.moved hW.alike h1, fun q hm => (h2 q hm).warmM hW, va_AO.moved hW.alike h3, h4.moved hW.alike, h5.warm hW, h6.go hW.alike hq, (va_X.moved hW.alike h7).kept (hq _ (by omega) (by omega)), h8, by omega⟩
