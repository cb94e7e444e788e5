/-! System.arraycopy, and what is made. -/
theorem vm_fd0 : ∀ a, a < 8 → ∀ k, k < vm_N a → defaultValue (vm_F a k) = vm_fv ((vm_fl a).getD k none) 0 := by decide +kernel
theorem vm_outer (c : ClassId) (N h0 : Nat) : ∀ i : Nat, Jvm.Free.Multi.outerC c N h0 i = arrV c N (fun j => va_rf (if j < i then some (h0 + 1 + j) else none))
  | 0 => by
    show ({ cls := c, slots := Array.replicate N .null, vm := .none } : Cell) = _
    rw [arrV_new]
    refine congrArg (arrV c N) (funext fun j => ?_)
    simp [va_rf]
  | i + 1 => by
    show (Jvm.Free.Multi.outerC c N h0 i).setSlot i (.ref (h0 + 1 + i)) = _
    rw [vm_outer c N h0 i, arrV_store]
    refine congrArg (arrV c N) (funext fun j => ?_)
    by_cases e : j = i
    · subst e
      simp [updV, va_rf]
    · by_cases h : j < i
      · simp [updV, e, h, Nat.lt_succ_of_lt h]
      · simp [updV, e, h, show ¬ j < i + 1 by omega]
section MEM2
variable {p : Program} {l : Launch} {e : Env} {R : Room} {s : State} {m : MethodId} {args : Array Value} {below : List Frame} {meth : Method} {c : Code} {H : Heap} {locs : List Loc} {cells slots : Nat} {Q : State → Prop}
variable {bb : ByteArray} {pc n a b : Nat} {kI : Int32} {kL : Int64} {i : Instr} {ls : Array Slot} {own : String} {ini : Bool} {rt : Option FieldType} {st st' r : List Value}
variable {D : va_G} {A : Nat → ClassId} {n0 o : Nat} {μ μ' : vm_M} {fl : List (Option (Option Nat))} {H0 : Heap}
theorem vm_s_copy {x q k n1 n2 : Nat} (hx : p.tables.exec = Jvm.exec) (hb : c.code = bb) (hml : c.maxLocals = ls.size) (hown : s.vm.findClass own = some m.cls) (hlink : (Cond.methodLink own x arraycopyName).before args s = true) (hnat : (Cond.native arraycopyName).before args s = true) (hstat : (Cond.static arraycopyName).before args s = true) (hini : (Cond.initialized "java/lang/System").before args s = true)
    (hK : va_K D vm_cls (vm_tys A) s) (hR : vm_Rp D A n0 μ H) (hS0 : va_S (fun q => n0 ≤ q) H0 H locs) (hk : k < 2 ^ 31) (h1 : k ≤ n1) (h2 : k ≤ n2) (hso : μ.1 o = some (.inr (0, n1))) (hsq : μ.1 q = some (.inr (0, n2)))
    (hfr : 1 ≤ R.frames) (hlo : 64 ≤ R.locals) (hsum : (r.map fun v => v.category).sum ≤ 8) (hd : decode bb pc = .ok (.invokestatic x, 3))
    (kk : ∀ (H1 : Heap) (locs1 : List Loc), vm_Rp D A n0 (vm_cp μ o q k) H1 → va_S (fun q => n0 ≤ q) H0 H1 locs1 → W p l e R s m args below meth c H1 locs1 cells slots Q (F0 m (pc + 3) ls r)) : W p l e R s m args below meth c H locs cells slots Q (F0 m pc ls (.int (nI k) :: .int 0 :: .ref q :: .int 0 :: .ref o :: r)) := by
  intro T hT X
  obtain ⟨-, -, hc0⟩ := hR.2.2 o _ hso
  obtain ⟨hq, -, hc1⟩ := hR.2.2 q _ hsq
  rw [vm_cI (by omega)] at hc0 hc1
  generalize hf : (fun j => μ.2.1 o j) = f at *
  generalize hg : (fun j => μ.2.1 q j) = g at *
  have hc0 : H[o]? = some (arrV (A 0) n1 (fun j => .int (f j))) := by rw [hc0, ← hf]
  have hc1 : H[q]? = some (arrV (A 0) n2 (fun j => .int (g j))) := by rw [hc1, ← hg]
  obtain ⟨-, k0, hk0, cm0, hkk0⟩ := (vm_arrI hK 0 rfl) n1 (fun j => .int (f j))
  obtain ⟨-, k1, hk1, cm1, hkk1⟩ := (vm_arrI hK 0 rfl) n2 (fun j => .int (g j))
  have hz : (0 : Int32).toNatClampNeg = 0 := rfl
  have hkn : (nI k).toNatClampNeg = k := nI_clamp hk
  have hki : (nI k).toInt = (k : Int) := nI_toInt hk
  obtain ⟨vm', X', step⟩ := X.arraycopy hx hown hlink hnat hstat hini (src := o) (dst := q) (cs := arrV (A 0) n1 (fun j => .int (f j))) (cd := arrV (A 0) n2 (fun j => .int (g j))) (srcPos := 0) (destPos := 0) (n := nI k) (by rw [hT]; exact hc0) (by rw [hT]; exact hc1)
    (fun _ h => by cases h) (fun _ h => by cases h) (fun h => by cases h) (fun h => by cases h) hk0 hk1 hkk0 hkk1 rfl (by decide) (by decide) (nI_pos hk)
    (by rw [hki, arrV_size]; show ¬ (0 : Int) + _ > _; omega)
    (by rw [hki, arrV_size]; show ¬ (0 : Int) + _ > _; omega)
    (fun vm₁ _ i hi => by
      rw [hkn] at hi
      have e : (arrV (A 0) n1 (fun j => .int (f j))).slots.getD ((0 : Int32).toNatClampNeg + i) .null = .int (f i) := by
        rw [Array.getD_eq_getD_getElem?, hz, Nat.zero_add, arrV_read _ _ (by omega)]
        rfl
      rw [e]
      exact ⟨rfl, trivial⟩)
    (g := F0 m pc ls (.int (nI k) :: .int 0 :: .ref q :: .int 0 :: .ref o :: r)) rfl (by rw [hml]) (rest := r) rfl (by rw [hb]; exact hd) hfr (by
      have : nativeFrameWords "java/lang/System" "arraycopy" 5 + 11 ≤ 56 := by decide +kernel
      show 2 * 0 + _ + _ ≤ _; omega)
  have e1 : copied (arrV (A 0) n1 (fun j => .int (f j))) (arrV (A 0) n2 (fun j => .int (g j))) 0 0 (nI k) = arrV (A 0) n2 (fun j => .int (va_cpy f g 0 0 k j)) := by
    have := va_copied (fun z => Value.int z) (A 0) (A 0) (n0 := n1) (n1 := n2) (sp := 0) (dp := 0) (n := k) f g (by omega)
    rw [← this]
    show (arrV (A 0) n2 (fun j => .int (g j))).storeRun (0 : Int32).toNatClampNeg ((arrV (A 0) n1 (fun j => .int (f j))).stretch (0 : Int32).toNatClampNeg (nI k).toNatClampNeg) = _
    rw [hz, hkn]
  rw [e1] at X' step
  have hl : q < H.size := (Array.getElem?_eq_some_iff.mp hc1).1
  generalize hcell : arrV (A 0) n2 (fun j => .int (va_cpy f g 0 0 k j)) = cell at X' step
  have hheap : ((T.setVm vm').setCell q cell).heap = H.setIfInBounds q cell := by rw [← hT]; rfl
  have oq : ∀ z : Nat, z ≠ q → (H.setIfInBounds q cell)[z]? = H[z]? := fun z hz => by simp [Array.getElem?_setIfInBounds, Ne.symm hz]
  have hat : (H.setIfInBounds q cell)[q]? = some cell := by simp [Array.getElem?_setIfInBounds, hl]
  have hRp : vm_Rp D A n0 (vm_cp μ o q k) (H.setIfInBounds q cell) := by
    refine hR.upd (by simp) oq hq rfl (fun z hz => ⟨rfl, vm_set_ne hz, rfl, rfl⟩) (fun e he => ?_)
    have he' : μ.1 q = some e := he
    rw [hsq] at he'
    cases he'
    refine ⟨by omega, ?_⟩
    rw [vm_cI (μ := vm_cp μ o q k) (by omega), hat, ← hcell]
    congr 2
    funext j
    show Value.int (va_cpy f g 0 0 k j) = .int (vm_set μ.2.1 q (fun j => if j < k then μ.2.1 o j else μ.2.1 q j) q j)
    rw [vm_set_eq, ← hf, ← hg]
    simp [va_cpy]
  obtain ⟨t, a1, b1⟩ := kk _ _ hRp ⟨by simp; exact hS0.1, fun z g1 g2 => by
      rw [oq z (fun e => g2 (by show n0 ≤ z; omega))]
      exact hS0.2.1 z g1 g2, fun z hz => by
      rcases List.mem_append.mp hz with h | h
      · exact hS0.2.2 z h
      · obtain ⟨y, -, hy⟩ := List.mem_map.mp h
        rw [← hy]
        exact hq⟩ _ hheap X'
  exact ⟨t, step t a1, b1⟩
theorem vm_Rp.push {sh : vm_Sh} {H1 : Heap} (h : vm_Rp D A n0 μ H) (z : H1.size = H.size + 1) (o1 : ∀ q, q < H.size → H1[q]? = H[q]?) (hc : vm_ce D A (vm_nw μ sh) H1 H.size sh) : vm_Rp D A n0 (vm_nw μ sh) H1 := by
  have hs := h.1
  refine ⟨by rw [z, hs]; rfl, by have := h.2.1; omega, fun q e hq => ?_⟩
  by_cases hqo : q = μ.2.2.2.2
  · have hq' : vm_set μ.1 μ.2.2.2.2 (some sh) q = some e := hq
    rw [hqo, vm_set_eq] at hq'
    cases hq'
    rw [hqo, ← hs]
    exact ⟨h.2.1, hc⟩
  · have hq' : vm_set μ.1 μ.2.2.2.2 (some sh) q = some e := hq
    rw [vm_set_ne hqo] at hq'
    obtain ⟨g1, g2⟩ := h.2.2 q e hq'
    exact ⟨g1, g2.kept (o1 q g2.lt) (vm_set_ne hqo) (vm_set_ne hqo) (vm_set_ne hqo)⟩
theorem vm_S_push {H1 : Heap} (hS : va_S (fun q => n0 ≤ q) H0 H locs) (z : H.size ≤ H1.size) (o1 : ∀ q, q < H.size → H1[q]? = H[q]?) : va_S (fun q => n0 ≤ q) H0 H1 locs :=
  ⟨Nat.le_trans hS.1 z, fun x h1 h2 => (o1 x (Nat.lt_of_lt_of_le h1 hS.1)).trans (hS.2.1 x h1 h2), hS.2.2⟩
theorem vm_s_new {x : Nat} (hx : p.tables.exec = Jvm.exec) (hb : c.code = bb) (hown : s.vm.findClass own = some m.cls) (hK : va_K D vm_cls (vm_tys A) s) (hu : ∀ ci, ci < 8 → ∀ w ∈ u_ws (vm_R ci) (vm_T ci) (vm_N ci), w.before args s = true) (ha : a < 8)
    (hcl : (Cond.classLink own x (vm_R a)).before args s = true) (hinst : (Cond.instantiable (vm_R a) (vm_N a)).before args s = true) (hini : (Cond.initialized (vm_R a)).before args s = true) (hR : vm_Rp D A n0 μ H) (hS0 : va_S (fun q => n0 ≤ q) H0 H locs)
    (hcells : cells + 1 ≤ R.cells) (hslots : slots + vm_N a ≤ R.slots) (hd : decode bb pc = .ok (.new x, 3))
    (kk : ∀ (H1 : Heap), vm_Rp D A n0 (vm_nw μ (.inl (a, vm_fl a))) H1 → va_S (fun q => n0 ≤ q) H0 H1 locs → W p l e R s m args below meth c H1 locs (cells + 1) (slots + vm_N a) Q (F0 m (pc + 3) ls (.ref μ.2.2.2.2 :: r))) : W p l e R s m args below meth c H locs cells slots Q (F0 m pc ls r) := by
  have hKn := hK.1 a _ (vm_cls_at ha)
  refine W.newcK hx hb hown hcl hinst hini rfl hd hcells hslots hKn.2.1 rfl fun H1 kC hkC e1 z1 o1 => ?_
  have hb0 := u_born (vm_F a) (hu a ha) (fun _ h => h) hKn hkC e1 (vm_fd a ha)
  have := kk H1 (hR.push z1 o1 ⟨ha, rfl, hb0.to (fun k hk => ?_)⟩) (vm_S_push hS0 (by omega) o1)
  · rw [hR.1]
    exact this
  · rw [vm_fd0 a ha k hk]
    show _ = vm_fv ((vm_fl a).getD k none) (vm_set μ.2.1 μ.2.2.2.2 (fun _ => 0) H.size k)
    rw [hR.1, vm_set_eq]
theorem vm_s_newa {t : ArrayType} {k : Nat} (hx : p.tables.exec = Jvm.exec) (hb : c.code = bb) (hK : va_K D vm_cls (vm_tys A) s) (harr : (Cond.arrayClass (newarray.typeOf t)).before args s = true) (ht : vm_tag t = a) (ha : a < 4) (hk : k ≤ 65536) (hR : vm_Rp D A n0 μ H) (hS0 : va_S (fun q => n0 ≤ q) H0 H locs)
    (hcells : cells + 1 ≤ R.cells) (hslots : slots + k ≤ R.slots) (hd : decode bb pc = .ok (.newarray t, 2))
    (kk : ∀ (H1 : Heap), vm_Rp D A n0 (vm_nw μ (.inr (a, k))) H1 → va_S (fun q => n0 ≤ q) H0 H1 locs → W p l e R s m args below meth c H1 locs (cells + 1) (slots + k) Q (F0 m (pc + 2) ls (.ref μ.2.2.2.2 :: r))) : W p l e R s m args below meth c H locs cells slots Q (F0 m pc ls (.int (nI k) :: r)) := by
  subst ht
  have hcb : componentBytes (newarray.typeOf t) ≤ 8 := by cases t <;> decide
  refine va_newaK hx hb harr rfl hd rfl (nI_pos (by omega)) (nI_clamp (by omega)) (Nat.le_trans (Nat.mul_le_mul hk hcb) (by decide)) hcells hslots rfl fun H1 cA e1 z1 o1 hAr hNm => ?_
  have := kk H1 (hR.push z1 o1 ⟨by omega, ?_⟩) (vm_S_push hS0 (by omega) o1)
  · rw [hR.1]
    exact this
  · rw [e1]
    cases t <;> first | (exfalso; revert ha; decide) | skip
    · obtain rfl : cA = A 2 := Option.some.inj (hNm.symm.trans (hK.2 2 _ rfl).2)
      rw [show vm_tag .boolean = 2 from rfl, vm_cI (by omega), hR.1]
      show _ = some (arrV _ _ (fun j => .int (vm_set μ.2.1 μ.2.2.2.2 (fun _ => 0) μ.2.2.2.2 j)))
      rw [vm_set_eq]
      rfl
    · obtain rfl : cA = A 1 := Option.some.inj (hNm.symm.trans (hK.2 1 _ rfl).2)
      rw [show vm_tag .char = 1 from rfl, vm_cI (by omega), hR.1]
      show _ = some (arrV _ _ (fun j => .int (vm_set μ.2.1 μ.2.2.2.2 (fun _ => 0) μ.2.2.2.2 j)))
      rw [vm_set_eq]
      rfl
    · obtain rfl : cA = A 0 := Option.some.inj (hNm.symm.trans (hK.2 0 _ rfl).2)
      rw [show vm_tag .int = 0 from rfl, vm_cI (by omega), hR.1]
      show _ = some (arrV _ _ (fun j => .int (vm_set μ.2.1 μ.2.2.2.2 (fun _ => 0) μ.2.2.2.2 j)))
      rw [vm_set_eq]
      rfl
    · obtain rfl : cA = A 3 := Option.some.inj (hNm.symm.trans (hK.2 3 _ rfl).2)
      rw [show vm_tag .long = 3 from rfl, vm_cJ, hR.1]
      show _ = some (arrV _ _ (fun j => .long (vm_set μ.2.2.2.1 μ.2.2.2.2 (fun _ => 0) μ.2.2.2.2 j)))
      rw [vm_set_eq]
      rfl
theorem vm_s_anew {x k : Nat} (hx : p.tables.exec = Jvm.exec) (hb : c.code = bb) (hown : s.vm.findClass own = some m.cls) (hK : va_K D vm_cls (vm_tys A) s) (hcl : (Cond.classLink own x "GateSayings$Town").before args s = true) (hover : va_AO "GateSayings$Town" s) (hk : k ≤ 65536) (hR : vm_Rp D A n0 μ H) (hS0 : va_S (fun q => n0 ≤ q) H0 H locs)
    (hcells : cells + 1 ≤ R.cells) (hslots : slots + k ≤ R.slots) (hd : decode bb pc = .ok (.anewarray x, 3))
    (kk : ∀ (H1 : Heap), vm_Rp D A n0 (vm_nw μ (.inr (4, k))) H1 → va_S (fun q => n0 ≤ q) H0 H1 locs → W p l e R s m args below meth c H1 locs (cells + 1) (slots + k) Q (F0 m (pc + 3) ls (.ref μ.2.2.2.2 :: r))) : W p l e R s m args below meth c H locs cells slots Q (F0 m pc ls (.int (nI k) :: r)) := by
  have hkn : (nI k).toNatClampNeg = k := nI_clamp (by omega)
  refine W.anew hx hb hown hcl (va_AO.use hover) rfl hd rfl (nI_pos (by omega)) (by rw [hkn]; omega) hcells (by rw [hkn]; exact hslots) fun cA kA comp f1 f2 f3 f4 => ?_
  rw [hkn]
  generalize hH1 : H.push ({ cls := cA, slots := Array.replicate k .null, vm := .none } : Cell) = H1
  have z1 : H1.size = H.size + 1 := by rw [← hH1, Array.size_push]
  have e1 : H1[H.size]? = some (arrV cA k (fun _ => .null)) := by rw [← hH1, Array.getElem?_push_size, ← arrV_new]
  have o1 : ∀ q : Nat, q < H.size → H1[q]? = H[q]? := fun q hq => by rw [← hH1, Array.getElem?_push, if_neg (Nat.ne_of_lt hq)]
  obtain ⟨kA', comp', -, -, -, g4⟩ := (hK.2 4 (A 4, .object "GateSayings$Town") rfl).2
  obtain rfl : cA = A 4 := Option.some.inj (f1.symm.trans g4)
  have := kk H1 (hR.push z1 o1 ⟨by omega, ?_⟩) (vm_S_push hS0 (by omega) o1)
  · rw [hR.1]
    exact this
  · rw [e1, vm_cR (Or.inl rfl), hR.1]
    show _ = some (arrV _ _ (fun j => va_rf (vm_set μ.2.2.1 μ.2.2.2.2 (fun _ => none) μ.2.2.2.2 j)))
    rw [vm_set_eq]
    rfl
theorem vm_s_mnew {x N K : Nat} (hx : p.tables.exec = Jvm.exec) (hb : c.code = bb) (hown : s.vm.findClass own = some m.cls) (hK : va_K D vm_cls (vm_tys A) s) (hcl : (Cond.classLink own x "[[I").before args s = true) (harr : (Cond.arrayClass .int).before args s = true) (hover : (Cond.arrayOver (.array .int)).before args s = true) (hN : N ≤ 65536) (hK2 : K ≤ 65536) (hR : vm_Rp D A n0 μ H) (hS0 : va_S (fun q => n0 ≤ q) H0 H locs)
    (hcells : cells + (1 + N) ≤ R.cells) (hslots : slots + (N + N * K) ≤ R.slots) (hd : decode bb pc = .ok (.multianewarray x 2, 4))
    (kk : ∀ (H1 : Heap), vm_Rp D A n0 (vm_nw2 μ N K) H1 → va_S (fun q => n0 ≤ q) H0 H1 locs → W p l e R s m args below meth c H1 locs (cells + 1 + N) (slots + N + N * K) Q (F0 m (pc + 4) ls (.ref μ.2.2.2.2 :: r))) : W p l e R s m args below meth c H locs cells slots Q (F0 m pc ls (.int (nI K) :: .int (nI N) :: r)) := by
  have hNn : (nI N).toNatClampNeg = N := nI_clamp (by omega)
  have hKn : (nI K).toNatClampNeg = K := nI_clamp (by omega)
  intro T hT Xs
  obtain ⟨vm₁, cA, comp, -, fA, fC, hO, -, X', step⟩ := @Jvm.Stand.multianewarray2F _ _ _ _ _ _ _ _ _ _ _ _ _ _ Xs hx own x .int hown hcl hover harr (F0 m pc ls (.int (nI K) :: .int (nI N) :: r)) rfl (by rw [hb]; exact hd) (nI N) (nI K) r rfl (nI_pos (by omega)) (nI_pos (by omega)) (by rw [hNn]; omega) (by rw [hKn]; show K * 4 ≤ _; omega) (by rw [hKn]; omega) rfl rfl (by rw [hNn]; exact hcells) (by rw [hNn, hKn]; exact hslots)
  rw [hNn, hKn] at X' step
  obtain rfl : comp = A 0 := Option.some.inj (fC.symm.trans (hK.2 0 _ rfl).2)
  obtain rfl : cA = A 5 := Option.some.inj (fA.symm.trans (hK.2 5 _ rfl).2)
  generalize hF : Jvm.Free.Multi.fill (T.setVm vm₁) (A 5) (A 0) N K (defaultValue .int) N = F at X' step
  have hTh : (T.setVm vm₁).heap = H := hT
  obtain ⟨f1, f2, -, -⟩ := Jvm.Free.Multi.fill_facts (T.setVm vm₁) (A 5) (A 0) N K (defaultValue .int) N
  rw [hF, hTh] at f1 f2
  have hold : ∀ x : Nat, x < H.size → F.heap[x]? = H[x]? := fun x hx => by
    have := Jvm.Free.Multi.fill_old (T.setVm vm₁) (A 5) (A 0) N K (defaultValue .int) (a := x) (by rw [hTh]; exact hx) N
    rw [hF, hTh] at this
    exact this
  have hrow : ∀ j : Nat, j < N → F.heap[H.size + 1 + j]? = some (arrV (A 0) K (fun _ => .int 0)) := fun j hj => by
    have := Jvm.Free.Multi.fill_inner (T.setVm vm₁) (A 5) (A 0) N K (defaultValue .int) N j hj
    rw [hF, hTh] at this
    rw [this, ← arrV_new]
    rfl
  rw [vm_outer] at f2
  have hs := hR.1
  have hRp : vm_Rp D A n0 (vm_nw2 μ N K) F.heap := by
    refine ⟨by rw [f1, hs]; rfl, by have := hR.2.1; rw [f1]; omega, fun q e hq => ?_⟩
    have hq' : (if q = μ.2.2.2.2 then some (.inr (5, N)) else if μ.2.2.2.2 < q ∧ q ≤ μ.2.2.2.2 + N then some (.inr (0, K)) else μ.1 q) = some e := hq
    by_cases h1 : q = μ.2.2.2.2
    · rw [if_pos h1] at hq'
      cases hq'
      refine ⟨by have := hR.2.1; omega, by omega, ?_⟩
      rw [vm_cR (Or.inr rfl), h1, ← hs, f2]
      congr 2
      funext j
      show va_rf _ = va_rf ((if H.size = μ.2.2.2.2 then (fun i => if i < N then some (μ.2.2.2.2 + 1 + i) else none) else μ.2.2.1 H.size) j)
      rw [if_pos hs, hs]
    · rw [if_neg h1] at hq'
      by_cases h2 : μ.2.2.2.2 < q ∧ q ≤ μ.2.2.2.2 + N
      · rw [if_pos h2] at hq'
        cases hq'
        refine ⟨by have := hR.2.1; omega, by omega, ?_⟩
        rw [vm_cI (by omega)]
        have hrw := hrow (q - (H.size + 1)) (by omega)
        rw [show H.size + 1 + (q - (H.size + 1)) = q by omega] at hrw
        rw [hrw]
        congr 2
        funext j
        show _ = Value.int ((if μ.2.2.2.2 ≤ q ∧ q ≤ μ.2.2.2.2 + N then (fun _ => 0) else μ.2.1 q) j)
        rw [if_pos (by omega)]
      · rw [if_neg h2] at hq'
        obtain ⟨g1, g2⟩ := hR.2.2 q e hq'
        have hlt := g2.lt
        refine ⟨g1, g2.kept (hold q hlt) ?_ ?_ rfl⟩
        · show (if μ.2.2.2.2 ≤ q ∧ q ≤ μ.2.2.2.2 + N then (fun _ => 0) else μ.2.1 q) = _
          rw [if_neg (by omega)]
        · show (if q = μ.2.2.2.2 then _ else μ.2.2.1 q) = _
          rw [if_neg h1]
  obtain ⟨t, a1, b1⟩ := kk F.heap hRp (vm_S_push hS0 (by rw [f1]; omega) hold) F rfl X'
  refine ⟨t, step t ?_, b1⟩
  have e : T.heap.size = μ.2.2.2.2 := by rw [hT, hs]
  rw [e]
  exact a1
end MEM2
