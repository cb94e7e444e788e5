/-! The law's start: what stands around it, and its frame from the small machine's. -/
theorem vm_w (i : Nat) {w : Jvm.Cond} (h : lw_tbl[i]? = some w) {args : Array Value} {s : State} (hts : ∀ w ∈ lw_tbl, w.before args s = true) : w.before args s = true := hts w (by first | exact List.mem_of_getElem? h | exact List.getElem?_mem h)
theorem vm_arr {s : State} {args : Array Value} {ty : FieldType} (h : (Cond.arrayClass ty).before args s = true) : ∃ cA : ClassId, s.vm.findClass ("[" ++ ty.toString) = some cA ∧ ArrOfT s cA ty := by
  obtain ⟨cA, kA, comp, h1, h2, h3⟩ := Cond.arrayClass_spec h
  exact ⟨cA, h1, fun n z => ⟨fun k h => (by cases h), kA, h2, comp, h3⟩⟩
theorem vm_insts : ∀ ci, ci < 8 → lw_tbl[[191, 211, 72, 140, 90, 160, 64, 667].getD ci 0]? = some (.instantiable (vm_R ci) (vm_N ci)) := by decide +kernel
theorem vm_flat : (∀ j, j < 72 → (flatC (Jvm.Cond.and given_1 narrow_1))[13 + j]? = some (Cond.eq (.elem (.field (.string "GateSayings" 59) "java/lang/String" "value" "[B") (.int (Int32.ofNat j))) (.int (vm_txt.getD j 0)))) ∧
    (flatC (Jvm.Cond.and given_1 narrow_1))[4]? = some (.eq (.static "java/lang/String" "COMPACT_STRINGS" "Z") (.int 1)) ∧ (flatC (Jvm.Cond.and given_1 narrow_1))[5]? = some (.isRef (.static "jdk/internal/util/Preconditions" "SIOOBE_FORMATTER" "Ljava/util/function/BiFunction;")) ∧
    (flatC (Jvm.Cond.and given_1 narrow_1))[9]? = some (.exactly (.string "GateSayings" 59) "java/lang/String") ∧ (flatC (Jvm.Cond.and given_1 narrow_1))[10]? = some (.eq (.field (.string "GateSayings" 59) "java/lang/String" "coder" "B") (.int 0)) ∧
    (flatC (Jvm.Cond.and given_1 narrow_1))[11]? = some (.arrayOf (.field (.string "GateSayings" 59) "java/lang/String" "value" "[B") .byte) ∧ (flatC (Jvm.Cond.and given_1 narrow_1))[12]? = some (.eq (.length (.field (.string "GateSayings" 59) "java/lang/String" "value" "[B")) (.int 72)) := by decide +kernel
theorem vm_nest_w : vm_nests.map (fun q => Jvm.Cond.methodLinkNest q.1 q.2.1 (vm_y q.2.2.1) q.2.2.2) = [73, 91, 161, 192, 212, 312, 150].filterMap (fun i => lw_tbl[i]?) := by decide +kernel
theorem vm_env {s : State} {args : Array Value} {b L : Nat} {xs : Nat → Int32} (hts : ∀ w ∈ lw_tbl, w.before args s = true) (hX : va_X b L xs s s.heap) (hbl : b < s.heap.size) (hgv : (Jvm.Cond.and given_1 narrow_1).before args s = true) :
    ∃ (D : va_G) (A : Nat → ClassId) (a : Nat), vm_KE D A s.heap.size (a, b, L, xs) s s.heap := by
  have hfl : ∀ (i : Nat) (w : Jvm.Cond), (flatC (Jvm.Cond.and given_1 narrow_1))[i]? = some w → w.before args s = true := fun i w h => flat_of_before _ hgv w (by first | exact List.mem_of_getElem? h | exact List.getElem?_mem h)
  obtain ⟨f0, f4, f5, f9, f10, f11, f12⟩ := vm_flat
  have hA : ∀ a : Nat, a < s.heap.size → ¬ s.heap.size ≤ a := fun a h1 h2 => by omega
  have hcl : ∀ ci : Nat, ∃ q : ClassId × (Nat → Nat), ci < 8 → u_Kn s (vm_R ci) (vm_T ci) (vm_N ci) q.1 q.2 := by
    intro ci
    by_cases hc : ci < 8
    · obtain ⟨cC, iS, h⟩ := u_known (ws := lw_tbl) hts (fun w hw => (List.mem_filter.mp (vm_uw_in ci hc w hw)).1) (vm_w _ (vm_insts ci hc) hts)
      exact ⟨(cC, iS), fun _ => h⟩
    · exact ⟨(0, fun _ => 0), fun h => absurd h hc⟩
  obtain ⟨dd, hdd⟩ := Classical.axiomOfChoice hcl
  obtain ⟨a0, h0, g0⟩ := vm_arr (vm_w 138 (w := .arrayClass .int) (by decide +kernel) hts)
  obtain ⟨a1, h1, g1⟩ := vm_arr (vm_w 88 (w := .arrayClass .char) (by decide +kernel) hts)
  obtain ⟨a2, h2, g2⟩ := vm_arr (vm_w 189 (w := .arrayClass .boolean) (by decide +kernel) hts)
  obtain ⟨a3, h3, g3⟩ := vm_arr (vm_w 234 (w := .arrayClass .long) (by decide +kernel) hts)
  have ho : (Cond.arrayOver (.object "GateSayings$Town")).before args s = true := vm_w 149 (by decide +kernel) hts
  have hoo : (Cond.arrayOver (.array .int)).before args s = true := vm_w 197 (by decide +kernel) hts
  obtain ⟨c4, a4, k4, q1, q2, q3, q4, q5⟩ := Cond.arrayOver_spec ho
  obtain ⟨c5, a5, k5, r1, r2, r3, r4, r5⟩ := arrayOverA_spec hoo
  obtain ⟨adK, adV, hK, hev⟩ := vk_Sof (args := args) (s := s) (N := 1) (tm := fun _ => .string "GateSayings" 59) (len := [72]) (byt := [vm_txt]) (A := fun q => s.heap.size ≤ q) (fun i hi => by
      obtain rfl : i = 0 := by omega
      decide) (fun i hi => hfl _ _ f9) (fun i hi => hfl _ _ f10) (fun i hi => hfl _ _ f11) (fun i hi => by
      obtain rfl : i = 0 := by omega
      exact hfl _ _ f12) (fun i hi j hj => by
      obtain rfl : i = 0 := by omega
      exact hfl _ _ (f0 j hj)) (fun i j hi hj h => by omega) hA
  have hnst : ∀ q ∈ vm_nests, (Cond.methodLinkNest q.1 q.2.1 (vm_y q.2.2.1) q.2.2.2).before args s = true := by
    intro q hq
    have hm : Cond.methodLinkNest q.1 q.2.1 (vm_y q.2.2.1) q.2.2.2 ∈ vm_nests.map (fun q => Jvm.Cond.methodLinkNest q.1 q.2.1 (vm_y q.2.2.1) q.2.2.2) := List.mem_map.mpr ⟨q, hq, rfl⟩
    rw [vm_nest_w] at hm
    obtain ⟨i, -, hi⟩ := List.mem_filterMap.mp hm
    exact vm_w i hi hts
  refine ⟨(fun c => (dd c).1, fun c => (dd c).2), (fun k => match k with | 0 => a0 | 1 => a1 | 2 => a2 | 3 => a3 | 4 => a4 | _ => a5), adK 0, ⟨fun c q hc => ?_, fun k q hk => ?_⟩, fun q hq => va_Nw.of rfl (hnst q hq), va_AO.of ho, hoo, vk_R.of (A := args) (vm_w 235 (by decide +kernel) hts) (hev 0 (by decide)), ⟨⟨adV, ?_⟩, va_Zof (vm_w 245 (by decide +kernel) hts) (hts _ (List.mem_filter.mp (vm_sws_in _ (List.mem_of_getElem? (i := 6) rfl))).1) (va_eqi (hfl _ _ f4)) hA, va_Zqof (vm_w 261 (by decide +kernel) hts) (hts _ (List.mem_filter.mp (vm_sws_in _ (List.mem_of_getElem? (i := 22) rfl))).1) (hfl _ _ f5) hA⟩, hX, hbl, Nat.le_refl _⟩
  · have hc8 : c < 8 := (List.getElem?_eq_some_iff.mp hc).1
    rw [vm_cls_at hc8] at hc
    cases hc
    exact hdd c hc8
  · have hk6 : k < 6 := (List.getElem?_eq_some_iff.mp hk).1
    rcases (by omega : k = 0 ∨ k = 1 ∨ k = 2 ∨ k = 3 ∨ k = 4 ∨ k = 5) with rfl | rfl | rfl | rfl | rfl | rfl <;> cases hk
    · exact ⟨g0, h0⟩
    · exact ⟨g1, h1⟩
    · exact ⟨g2, h2⟩
    · exact ⟨g3, h3⟩
    · exact ⟨fun n z => ⟨fun k h => (by cases h), k4, q3, c4, q4⟩, k4, c4, q3, q4, q1, q5⟩
    · exact ⟨fun n z => ⟨fun k h => (by cases h), k5, r3, c5, r4⟩, r5⟩
  · refine ⟨fun i hi => ?_, fun i j hi hj _ => by omega⟩
    obtain rfl : i = 0 := by omega
    exact hK.1 0 (by decide)
def R_law : String := "GateSayingsLaw"
def lw_P (b : Addr) (xs : List Int32) (args : Array Value) (s : State) : Prop := args = #[.ref b] ∧ s.IntsAt b xs ∧ xs.length ≤ 320 ∧ (Jvm.Cond.and given_1 narrow_1).before args s = true
def lw_Q (_ : Array Value) (s : State) (o : Outcome) (t : State) : Prop := o = .returned (some (.int 1)) ∧ Framed s o t [] 600000 7302250
def lw_Z (below : List Frame) (a : Array Value) (s : State) : State → Prop := fun t => ∃ o, t.status = .running ∧ Ended t below o ∧ lw_Q a s o t
/-- the law's own end, with 1 on the stack, nothing written that was there before, its room as the claim has it -/
theorem lw_ret {p : Program} {l : Launch} {e : Env} {s : State} {m : MethodId} {below : List Frame} {meth : Method} {c : Code} {b : Nat} (hx : p.tables.exec = Jvm.exec) (hb : c.code = code) (hr : meth.sig.returnType = ret) (hlocks : meth.locks = false) {pc : Nat} {H : Heap} {ls : Array Slot} (hdg : decode code pc = .ok (.ireturn, 1)) : W p l e room_1 s m #[Value.ref b] below meth c H [] 600000 7302250 (lw_Z below #[Value.ref b] s) (F0 m pc ls [.int 1]) := by
  intro T hT X
  obtain ⟨fs, hret, hrun, hended, hW, hframe⟩ := X.leave (v := some (.int 1)) (hlocks := hlocks) (fun h => by rw [hr] at h; cases h)
  have hmeth' : T.vm.method? m = some meth := X.method'
  refine ⟨T.setFrames fs, ?_, .returned (some (.int 1)), hrun, hended, rfl, ⟨_, rfl⟩, hW, hframe⟩
  jvm_step X.here [X.here.top, hx, hb, hdg, hmeth', hr, ret, narrow_b1]
  (try refine ⟨rfl, ?_⟩); (try refine ⟨rfl, ?_⟩)
  first | (intro acts; rw [hret _ acts rfl rfl rfl]) | rw [hret _ _ rfl rfl rfl]
  exact Steps.refl _
/-- what holds at the law's entry: the machine, the code, the tables' words (any of lw_tbl by 'hts w (by decide +kernel)'), the script of L ints xs at the cell b, what the Statement gives of the start (any of its parts by flat_of_before) -/
def lw_At (p : Program) (s : State) (m : MethodId) (meth : Method) (c : Code) (b L : Nat) (xs : Nat → Int32) : Prop :=
  p.tables.exec = Jvm.exec ∧ c.code = code ∧ meth.sig.returnType = ret ∧ c.maxLocals = 4 ∧ s.vm.findClass R_law = some m.cls ∧ (∀ w ∈ lw_tbl, w.before #[Value.ref b] s = true) ∧ va_X b L xs s s.heap ∧ b < s.heap.size ∧ meth.locks = false ∧ (Jvm.Cond.and given_1 narrow_1).before #[Value.ref b] s = true
/-- the memory at the law's start -/
def vm_m0' (n0 : Nat) : vm_M := (fun _ => none, fun _ _ => 0, fun _ _ => none, fun _ _ => 0, n0)
theorem vm_whole {p : Program} {e : Env} {s : State} {m : MethodId} {below : List Frame} {meth : Method} {c : Code} (l : Launch) {b L : Nat} {xs : Nat → Int32} (C0 : lw_At p s m meth c b L xs)
    (hgo : ∀ a : Nat, b < s.heap.size → vm_W (a, b, L, xs) (vm_Ex (a, b, L, xs) 40) k_L_law (fun v _ => v = some (.int 1)) (0, [.ref b, .retAddr 0, .retAddr 0, .retAddr 0], [], 600000, 7302250, vm_m0' s.heap.size)) :
    W p l e room_1 s m #[Value.ref b] below meth c s.heap [] 0 0 (lw_Z below #[Value.ref b] s) (entryFrame m ([Value.ref b] : List Value).toArray 4) := by
  obtain ⟨hx, hb, hr, hml, hown, hts, hX, hbl, hlocks, hgv⟩ := C0
  obtain ⟨D, A, a, hKE⟩ := vm_env hts hX hbl hgv
  have htb : ∀ w ∈ vm_tb, w.before #[Value.ref b] s = true := fun w h => hts w (List.mem_filter.mp h).1
  obtain ⟨e1, e2, e3⟩ := vm_ent_ok (as := [.ref b]) (n := 4) rfl (Nat.le_of_ble_eq_true rfl)
  have hRp : vm_Rp D A s.heap.size (vm_m0' s.heap.size) s.heap := ⟨rfl, Nat.le_refl _, fun o e h => by cases h⟩
  rw [lg_entry_eq]
  refine vm_frame (own := R_law) (ini := false) (rt := some .boolean) (bb := code) (d := 40) (Qv := fun v _ => v = some (.int 1)) hx hb hml hown htb (fun q => by cases q) vm_ko_L_law hKE (by decide) (by decide) (vm_sound l D A s.heap.size (a, b, L, xs) 40) ?_ (hgo a hbl) s.heap [] 0 0 _ hRp va_S.rf e1 e2 e3 (by show 0 + 600000 ≤ 600000; omega) (by show 0 + 7302250 ≤ 7302250; omega)
  intro p' n a' b' i kI kL L' st c1 d1 μ1 H locs cells slots ls hd hk hq hR hS hcl hsl
  obtain ⟨p2, L2, st2, c2, d2, μ2, he, hq⟩ := hq
  cases he
  refine W.widen hcl hsl (va_forget hS.2.2 ?_)
  rcases hq with ⟨v, rfl, rfl, hb1, hq⟩ | ⟨rfl, rfl, hq⟩
  · cases hq
    obtain ⟨rfl, hd2, -⟩ := vm_c2 (k := 1) hk hd
    exact lw_ret hx hb hr hlocks hd2
  · cases hq
