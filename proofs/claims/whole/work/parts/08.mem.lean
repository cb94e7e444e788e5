/-! The small memory and the heap: reads, writes, new cells. -/
def vm_fv : Option (Option Nat) → Int32 → Value
  | none, v => .int v
  | some none, _ => .null
  | some (some q), _ => .ref q
def vm_ar (t N : Nat) (i : Nat → Int32) (r : Nat → Option Nat) (j : Nat → Int64) : vp_A := if t = 3 then (N, .inr (.inl j)) else if t = 4 ∨ t = 5 then (N, .inr (.inr (.inr (.inr r)))) else (N, .inl i)
def vm_ce (D : va_G) (A : Nat → ClassId) (μ : vm_M) (H : Heap) (o : Nat) : vm_Sh → Prop
  | .inl (ci, fl) => ci < 8 ∧ fl.map Option.isSome = (vm_fl ci).map Option.isSome ∧ t_OB o (D.1 ci) (vm_N ci) (D.2 ci) H (fun k => vm_fv (fl.getD k none) (μ.2.1 o k))
  | .inr (t, N) => t < 6 ∧ H[o]? = some (vp_cell (A t) (vm_ar t N (μ.2.1 o) (μ.2.2.1 o) (μ.2.2.2.1 o)))
/-- the heap holds the memory; its cells lie at n0 and on -/
def vm_Rp (D : va_G) (A : Nat → ClassId) (n0 : Nat) (μ : vm_M) (H : Heap) : Prop := H.size = μ.2.2.2.2 ∧ n0 ≤ H.size ∧ ∀ o e, μ.1 o = some e → n0 ≤ o ∧ vm_ce D A μ H o e
def vm_tys (A : Nat → ClassId) : List (ClassId × FieldType) := [(A 0, .int), (A 1, .char), (A 2, .boolean), (A 3, .long), (A 4, .object "GateSayings$Town"), (A 5, .array .int)]
theorem vm_cls_at {ci : Nat} (h : ci < 8) : vm_cls[ci]? = some (vm_R ci, vm_T ci, vm_N ci) := by
  rcases (by omega : ci = 0 ∨ ci = 1 ∨ ci = 2 ∨ ci = 3 ∨ ci = 4 ∨ ci = 5 ∨ ci = 6 ∨ ci = 7) with rfl | rfl | rfl | rfl | rfl | rfl | rfl | rfl <;> rfl
theorem vm_fd : ∀ a, a < 8 → ∀ b, b < vm_N a → parseFieldDescriptor (vm_T a b).2.2.1 = some (vm_F a b) := by decide +kernel
theorem vm_fn : ∀ a, a < 8 → ∀ x, x < vm_N a → ∀ y, y < vm_N a → x ≠ y → (vm_T a x).2.1 ≠ (vm_T a y).2.1 := by decide +kernel
theorem vm_fi : ∀ a, a < 8 → ∀ b, b < vm_N a → (vm_fl a)[b]? = some none → (vm_T a b).2.2.2 = false ∧ vm_F a b = .int := by decide +kernel
theorem vm_fr : ∀ a, a < 8 → ∀ b, b < vm_N a → (vm_fl a)[b]? = some (some none) → (vm_T a b).2.2.2 = true ∧ (vm_F a b).isReference = true := by decide +kernel
theorem vm_fN : ∀ a, a < 8 → (vm_fl a).length = vm_N a := by decide +kernel
theorem vm_fb : ∀ a, a < 8 → ∀ b, b < vm_N a → (vm_fl a)[b]? = some none ∨ (vm_fl a)[b]? = some (some none) := by decide +kernel
theorem vm_fitR {ty : FieldType} (h : ty.isReference = true) (q : Nat) : narrow ty (.ref q) = .ref q ∧ fits ty (.ref q) = true := by
  cases ty <;> first | exact ⟨rfl, rfl⟩ | cases h
theorem vm_ce.kept {D : va_G} {A : Nat → ClassId} {μ μ' : vm_M} {H H1 : Heap} {o : Nat} {e : vm_Sh} (h : vm_ce D A μ H o e) (h1 : H1[o]? = H[o]?) (hI : μ'.2.1 o = μ.2.1 o) (hR : μ'.2.2.1 o = μ.2.2.1 o) (hJ : μ'.2.2.2.1 o = μ.2.2.2.1 o) : vm_ce D A μ' H1 o e := by
  match e, h with
  | .inl (ci, fl), h =>
    refine ⟨h.1, h.2.1, ?_⟩
    rw [hI]
    exact h.2.2.kept h1
  | .inr (t, N), h =>
    refine ⟨h.1, ?_⟩
    rw [hI, hR, hJ, h1]
    exact h.2
theorem vm_ce.lt {D : va_G} {A : Nat → ClassId} {μ : vm_M} {H : Heap} {o : Nat} {e : vm_Sh} (h : vm_ce D A μ H o e) : o < H.size := by
  match e, h with
  | .inl (ci, fl), h =>
    obtain ⟨-, -, cell, q, -⟩ := h
    exact (Array.getElem?_eq_some_iff.mp q).1
  | .inr (t, N), h => exact (Array.getElem?_eq_some_iff.mp h.2).1
theorem vm_Rp.upd {D : va_G} {A : Nat → ClassId} {n0 o : Nat} {μ μ' : vm_M} {H H1 : Heap} (h : vm_Rp D A n0 μ H) (z : H1.size = H.size) (oq : ∀ q, q ≠ o → H1[q]? = H[q]?) (ho : n0 ≤ o) (hn : μ'.2.2.2.2 = μ.2.2.2.2)
    (hs : ∀ q, q ≠ o → μ'.1 q = μ.1 q ∧ μ'.2.1 q = μ.2.1 q ∧ μ'.2.2.1 q = μ.2.2.1 q ∧ μ'.2.2.2.1 q = μ.2.2.2.1 q) (he : ∀ e, μ'.1 o = some e → vm_ce D A μ' H1 o e) : vm_Rp D A n0 μ' H1 := by
  refine ⟨by rw [z, hn]; exact h.1, by rw [z]; exact h.2.1, fun q e hq => ?_⟩
  by_cases hqo : q = o
  · subst hqo
    exact ⟨ho, he e hq⟩
  · obtain ⟨s1, s2, s3, s4⟩ := hs q hqo
    rw [s1] at hq
    obtain ⟨g1, g2⟩ := h.2.2 q e hq
    exact ⟨g1, g2.kept (oq q hqo) s2 s3 s4⟩
theorem vm_u_ne {α : Type} {f : Nat → Nat → α} {a k b : Nat} {v : α} (h : b ≠ a) : vm_u f a k v b = f b := if_neg h
theorem vm_u_eq {α : Type} {f : Nat → Nat → α} {a k : Nat} {v : α} : vm_u f a k v a = fun j => if j = k then v else f a j := if_pos rfl
theorem vm_set_ne {α : Type} {f : Nat → α} {a b : Nat} {v : α} (h : b ≠ a) : vm_set f a v b = f b := if_neg h
theorem vm_set_eq {α : Type} {f : Nat → α} {a : Nat} {v : α} : vm_set f a v a = v := if_pos rfl
section MEM
variable {p : Program} {l : Launch} {e : Env} {R : Room} {s : State} {m : MethodId} {args : Array Value} {below : List Frame} {meth : Method} {c : Code} {H : Heap} {locs : List Loc} {cells slots : Nat} {Q : State → Prop}
variable {bb : ByteArray} {pc n a b : Nat} {kI : Int32} {kL : Int64} {i : Instr} {ls : Array Slot} {own : String} {ini : Bool} {rt : Option FieldType} {st st' r : List Value}
variable {D : va_G} {A : Nat → ClassId} {n0 o : Nat} {μ μ' : vm_M} {fl : List (Option (Option Nat))} {H0 : Heap}
theorem vm_bN {b : Nat} {x : Option (Option Nat)} (ha : a < 8) (hfl : fl.map Option.isSome = (vm_fl a).map Option.isSome) (hb : fl[b]? = some x) : b < vm_N a := by
  have h1 := (List.getElem?_eq_some_iff.mp hb).1
  have h2 : (fl.map Option.isSome).length = ((vm_fl a).map Option.isSome).length := by rw [hfl]
  rw [List.length_map, List.length_map, vm_fN a ha] at h2
  omega
theorem vm_bK {b : Nat} {x : Option (Option Nat)} (hfl : fl.map Option.isSome = (vm_fl a).map Option.isSome) (hb : fl[b]? = some x) : ∃ y, (vm_fl a)[b]? = some y ∧ y.isSome = x.isSome := by
  have h2 : (fl.map Option.isSome)[b]? = ((vm_fl a).map Option.isSome)[b]? := by rw [hfl]
  rw [List.getElem?_map, List.getElem?_map, hb] at h2
  cases hy : (vm_fl a)[b]? with
  | none => rw [hy] at h2; cases h2
  | some y => rw [hy] at h2; exact ⟨y, rfl, (Option.some.inj h2).symm⟩
theorem vm_s_getf (hx : p.tables.exec = Jvm.exec) (hb : c.code = bb) (hown : s.vm.findClass own = some m.cls) (hK : va_K D vm_cls (vm_tys A) s) (hu : ∀ ci, ci < 8 → ∀ w ∈ u_ws (vm_R ci) (vm_T ci) (vm_N ci), w.before args s = true)
    (hR : vm_Rp D A n0 μ H) {x : Nat} {f0 : Option (Option Nat)} {v : Value} (hlink : (Jvm.Cond.fieldLink own x (vm_T a b).1 (vm_T a b).2.1 (vm_T a b).2.2.1).before args s = true) (hsh : μ.1 o = some (.inl (a, fl))) (hf : fl[b]? = some f0) (hv : vm_fv f0 (μ.2.1 o b) = v)
    (hd : decode bb pc = .ok (.getfield x, 3)) (kk : W p l e R s m args below meth c H locs cells slots Q (F0 m (pc + 3) ls (v :: r))) : W p l e R s m args below meth c H locs cells slots Q (F0 m pc ls (.ref o :: r)) := by
  obtain ⟨-, ha8, hfl, cell, q1, q2, q3, q4⟩ := hR.2.2 o _ hsh
  have hbN := vm_bN ha8 hfl hf
  obtain ⟨hS, hfc, kC, hkC, hkind⟩ := hK.1 a _ (vm_cls_at ha8)
  obtain ⟨cf, kf, fi, f, hi, hsl⟩ := hS b hbN
  refine W.getf hx hb hown hlink hi (u_facts hfc hkC (u_lays (hu a ha8) (fun _ h => h) hbN) hi).1 q1 (by rw [q3]; exact fun h => by cases h) (v := v) ?_ rfl rfl hd kk
  rw [hsl, q4 b hbN, ← hv]
  show some (vm_fv (fl.getD b none) (μ.2.1 o b)) = _
  rw [List.getD_eq_getElem?_getD, hf]
  rfl
theorem vm_t_ap (hK : va_K D vm_cls (vm_tys A) s) (hu : ∀ ci, ci < 8 → ∀ w ∈ u_ws (vm_R ci) (vm_T ci) (vm_N ci), w.before args s = true) (ha : a < 8) : ∀ x y, x < vm_N a → y < vm_N a → x ≠ y → (D.2 a) x ≠ (D.2 a) y :=
  va_apart (own := vm_R a) (hu a ha) (fun _ h => h) (vm_F a) (vm_fd a ha) (vm_fn a ha) hK (vm_cls_at ha)
theorem vm_s_putI (hx : p.tables.exec = Jvm.exec) (hb : c.code = bb) (hown : s.vm.findClass own = some m.cls) (hK : va_K D vm_cls (vm_tys A) s) (hu : ∀ ci, ci < 8 → ∀ w ∈ u_ws (vm_R ci) (vm_T ci) (vm_N ci), w.before args s = true)
    (hR : vm_Rp D A n0 μ H) (hS0 : va_S (fun q => n0 ≤ q) H0 H locs) {x : Nat} {v : Int32} (hlink : (Jvm.Cond.fieldLink own x (vm_T a b).1 (vm_T a b).2.1 (vm_T a b).2.2.1).before args s = true) (hsh : μ.1 o = some (.inl (a, fl))) (hf : fl[b]? = some none)
    (hd : decode bb pc = .ok (.putfield x, 3)) (kk : ∀ (H1 : Heap) (locs1 : List Loc), vm_Rp D A n0 (vm_mI μ o b v) H1 → va_S (fun q => n0 ≤ q) H0 H1 locs1 → W p l e R s m args below meth c H1 locs1 cells slots Q (F0 m (pc + 3) ls r)) : W p l e R s m args below meth c H locs cells slots Q (F0 m pc ls (.int v :: .ref o :: r)) := by
  obtain ⟨ho, ha8, hfl, cell, q1, q2, q3, q4⟩ := hR.2.2 o _ hsh
  have hbN := vm_bN ha8 hfl hf
  obtain ⟨y, hy, hy2⟩ := vm_bK hfl hf
  have hy3 : (vm_fl a)[b]? = some none := by
    cases y with
    | none => exact hy
    | some z => cases hy2
  obtain ⟨hfin, hty⟩ := vm_fi a ha8 b hbN hy3
  have hap := vm_t_ap hK hu ha8
  obtain ⟨hS, hfc, kC, hkC, hkind⟩ := hK.1 a _ (vm_cls_at ha8)
  obtain ⟨cf, kf, fi, f, hi, hsl⟩ := hS b hbN
  have hlay := hu a ha8 _ (u_in_lay hbN)
  unfold u_lay at hlay
  rw [if_neg (by rw [hfin]; decide)] at hlay
  have hst := (u_facts hfc hkC (u_lays (hu a ha8) (fun _ h => h) hbN) hi).1
  have h6 := u_store (v := .int v) hfc hkC hkind hlay hi ((vm_fd a ha8 b hbN).trans (by rw [hty])) rfl rfl
  refine W.putK hx hb (f := f) ⟨hown, hlink, ⟨_, _, _, hi⟩, hst⟩ (by rw [q2]; exact h6) q1 q3 (by rw [hsl]; exact k2_hasslot (q4 b hbN)) rfl rfl hd fun H' e1 e2 e3 => ?_
  rw [hsl] at e1 ⊢
  refine kk H' _ (hR.upd e2 e3 ho rfl (fun q hq => ⟨rfl, vm_u_ne hq, rfl, rfl⟩) (fun e he => ?_)) (hS0.put e2 e3 ho)
  have he' : μ.1 o = some e := he
  rw [hsh] at he'
  cases he'
  refine ⟨ha8, hfl, t_OB.to (V := updV (fun k => vm_fv (fl.getD k none) (μ.2.1 o k)) b (.int v)) ⟨_, e1, q2, q3, t_set q4 hap hbN (.int v)⟩ (fun j _ => ?_)⟩
  show updV _ b (.int v) j = vm_fv (fl.getD j none) (vm_u μ.2.1 o b v o j)
  rw [vm_u_eq]
  by_cases hj : j = b
  · subst hj
    simp only [updV, if_true]
    rw [List.getD_eq_getElem?_getD, hf]
    rfl
  · simp only [updV, if_neg hj]
theorem vm_s_putR (hx : p.tables.exec = Jvm.exec) (hb : c.code = bb) (hown : s.vm.findClass own = some m.cls) (hK : va_K D vm_cls (vm_tys A) s) (hu : ∀ ci, ci < 8 → ∀ w ∈ u_ws (vm_R ci) (vm_T ci) (vm_N ci), w.before args s = true)
    (hR : vm_Rp D A n0 μ H) (hS0 : va_S (fun q => n0 ≤ q) H0 H locs) {x q : Nat} {w : Option Nat} (hlink : (Jvm.Cond.fieldLink own x (vm_T a b).1 (vm_T a b).2.1 (vm_T a b).2.2.1).before args s = true) (hsh : μ.1 o = some (.inl (a, fl))) (hf : fl[b]? = some (some w))
    (hin2 : meth.name = "<init>") (hdecl : (vm_T a b).1 = own)
    (hd : decode bb pc = .ok (.putfield x, 3)) (kk : ∀ (H1 : Heap) (locs1 : List Loc), vm_Rp D A n0 (vm_mS μ o (.inl (a, fl.set b (some (some q))))) H1 → va_S (fun q => n0 ≤ q) H0 H1 locs1 → W p l e R s m args below meth c H1 locs1 cells slots Q (F0 m (pc + 3) ls r)) : W p l e R s m args below meth c H locs cells slots Q (F0 m pc ls (.ref q :: .ref o :: r)) := by
  obtain ⟨ho, ha8, hfl, cell, q1, q2, q3, q4⟩ := hR.2.2 o _ hsh
  have hbN := vm_bN ha8 hfl hf
  obtain ⟨y, hy, hy2⟩ := vm_bK hfl hf
  have hy3 : (vm_fl a)[b]? = some (some none) := by
    rcases vm_fb a ha8 b hbN with h | h
    · rw [h] at hy; cases hy; cases hy2
    · exact h
  obtain ⟨hfin, hty⟩ := vm_fr a ha8 b hbN hy3
  have hap := vm_t_ap hK hu ha8
  obtain ⟨hS, hfc, kC, hkC, hkind⟩ := hK.1 a _ (vm_cls_at ha8)
  obtain ⟨cf, kf, fi, f, hi, hsl⟩ := hS b hbN
  have hlay := hu a ha8 _ (u_in_lay hbN)
  unfold u_lay at hlay
  rw [if_pos hfin] at hlay
  have hst := (u_facts hfc hkC (u_lays (hu a ha8) (fun _ h => h) hbN) hi).1
  have hcf : m.cls = cf := by
    obtain ⟨_, _, c', _, _, _, -, -, hf', -, -, -, hown2, -⟩ := Cond.laysFinal_spec hlay
    have e1 : c' = cf := by have := hi.symm.trans hf'; simp at this; exact this.1.symm
    rw [hdecl] at hown2
    rw [← e1]; exact Option.some.inj (hown.symm.trans hown2)
  have h6 := u_fits (v := .ref q) hfc hkC hkind (Or.inr hlay) hi (vm_fd a ha8 b hbN) (vm_fitR hty q).1 (vm_fitR hty q).2
  refine W.putFinK hx hb hown hlink hi hst hcf hin2 (by rw [q2]; exact h6) q1 q3 (by rw [hsl]; exact k2_hasslot (q4 b hbN)) rfl rfl hd fun H' e1 e2 e3 => ?_
  rw [hsl] at e1 ⊢
  have hlt : b < fl.length := (List.getElem?_eq_some_iff.mp hf).1
  refine kk H' _ (hR.upd e2 e3 ho rfl (fun q hq => ⟨vm_set_ne hq, rfl, rfl, rfl⟩) (fun e he => ?_)) (hS0.put e2 e3 ho)
  have he' : vm_set μ.1 o (some (.inl (a, fl.set b (some (some q))))) o = some e := he
  rw [vm_set_eq] at he'
  cases he'
  refine ⟨ha8, ?_, t_OB.to (V := updV (fun k => vm_fv (fl.getD k none) (μ.2.1 o k)) b (.ref q)) ⟨_, e1, q2, q3, t_set q4 hap hbN (.ref q)⟩ (fun j _ => ?_)⟩
  · rw [List.map_set, ← hfl]
    apply List.ext_getElem?
    intro k
    by_cases hk : k = b
    · subst hk
      rw [List.getElem?_set_self (by rw [List.length_map]; exact hlt), List.getElem?_map, hf]
      rfl
    · rw [List.getElem?_set_ne (Ne.symm hk)]
  · show updV _ b (.ref q) j = vm_fv ((fl.set b (some (some q))).getD j none) (μ.2.1 o j)
    rw [List.getD_eq_getElem?_getD]
    by_cases hj : j = b
    · subst hj
      rw [List.getElem?_set_self hlt]
      simp only [updV, if_true]
      rfl
    · rw [List.getElem?_set_ne (Ne.symm hj)]
      simp only [updV, if_neg hj]
      rw [List.getD_eq_getElem?_getD]
theorem vm_arrI (hK : va_K D vm_cls (vm_tys A) s) (t : Nat) {ty : FieldType} (ht : (vm_tys A)[t]? = some (A t, ty)) : ArrOfT s (A t) ty := (hK.2 t _ ht).1
theorem vm_lt {j : Int32} {N : Nat} (h : vp_in j N) : j.toNatClampNeg < N := Nat.not_le.mp fun q => h (Or.inr q)
theorem vm_cI {t N : Nat} {o : Nat} (ht : t ≠ 3 ∧ t ≠ 4 ∧ t ≠ 5) : vp_cell (A t) (vm_ar t N (μ.2.1 o) (μ.2.2.1 o) (μ.2.2.2.1 o)) = arrV (A t) N (fun j => .int (μ.2.1 o j)) := by
  unfold vm_ar
  rw [if_neg ht.1, if_neg (by omega)]
  rfl
theorem vm_cJ {N : Nat} {o : Nat} : vp_cell (A 3) (vm_ar 3 N (μ.2.1 o) (μ.2.2.1 o) (μ.2.2.2.1 o)) = arrV (A 3) N (fun j => .long (μ.2.2.2.1 o j)) := rfl
theorem vm_cR {t N : Nat} {o : Nat} (ht : t = 4 ∨ t = 5) : vp_cell (A t) (vm_ar t N (μ.2.1 o) (μ.2.2.1 o) (μ.2.2.2.1 o)) = arrV (A t) N (fun j => va_rf (μ.2.2.1 o j)) := by
  rcases ht with rfl | rfl <;> rfl
theorem vm_s_aload {N : Nat} {j : Int32} {v : Value} (hx : p.tables.exec = Jvm.exec) (hb : c.code = bb) (hK : va_K D vm_cls (vm_tys A) s) (hR : vm_Rp D A n0 μ H) (hin : vp_in j N) (hd : decode bb pc = .ok (i, 1))
    (h : (i = .iaload ∧ μ.1 o = some (.inr (0, N)) ∧ v = .int (μ.2.1 o j.toNatClampNeg)) ∨ (i = .caload ∧ μ.1 o = some (.inr (1, N)) ∧ v = .int (μ.2.1 o j.toNatClampNeg)) ∨ (i = .baload ∧ μ.1 o = some (.inr (2, N)) ∧ v = .int (μ.2.1 o j.toNatClampNeg)) ∨
      (i = .laload ∧ μ.1 o = some (.inr (3, N)) ∧ v = .long (μ.2.2.2.1 o j.toNatClampNeg)) ∨ (i = .aaload ∧ (μ.1 o = some (.inr (4, N)) ∨ μ.1 o = some (.inr (5, N))) ∧ v = va_rf (μ.2.2.1 o j.toNatClampNeg)))
    (kk : W p l e R s m args below meth c H locs cells slots Q (F0 m (pc + 1) ls (v :: r))) : W p l e R s m args below meth c H locs cells slots Q (F0 m pc ls (.int j :: .ref o :: r)) := by
  have hlt := vm_lt hin
  rcases h with ⟨rfl, hsh, rfl⟩ | ⟨rfl, hsh, rfl⟩ | ⟨rfl, hsh, rfl⟩ | ⟨rfl, hsh, rfl⟩ | ⟨rfl, hsh, rfl⟩
  · obtain ⟨ho, -, hc⟩ := hR.2.2 o _ hsh
    rw [vm_cI (by omega)] at hc
    exact W.iald (v := .int (μ.2.1 o j.toNatClampNeg)) hx hb hc (vm_arrI hK 0 rfl N _) (fun q => by cases q) (by rw [arrV_size]; exact hin) (by rw [arrV_read _ _ hlt]) rfl rfl hd kk
  · obtain ⟨ho, -, hc⟩ := hR.2.2 o _ hsh
    rw [vm_cI (by omega)] at hc
    exact W.cald (v := .int (μ.2.1 o j.toNatClampNeg)) hx hb hc (vm_arrI hK 1 rfl N _) (fun q => by cases q) (by rw [arrV_size]; exact hin) (by rw [arrV_read _ _ hlt]) rfl rfl hd kk
  · obtain ⟨ho, -, hc⟩ := hR.2.2 o _ hsh
    rw [vm_cI (by omega)] at hc
    exact W.zald (v := .int (μ.2.1 o j.toNatClampNeg)) hx hb hc (vm_arrI hK 2 rfl N _) (fun q => by cases q) (by rw [arrV_size]; exact hin) (by rw [arrV_read _ _ hlt]) rfl rfl hd kk
  · obtain ⟨ho, -, hc⟩ := hR.2.2 o _ hsh
    rw [vm_cJ] at hc
    exact W.lald (v := .long (μ.2.2.2.1 o j.toNatClampNeg)) hx hb hc (vm_arrI hK 3 rfl N _) (fun q => by cases q) (by rw [arrV_size]; exact hin) (by rw [arrV_read _ _ hlt]) rfl rfl hd kk
  · rcases hsh with hsh | hsh
    · obtain ⟨ho, -, hc⟩ := hR.2.2 o _ hsh
      rw [vm_cR (Or.inl rfl)] at hc
      exact W.aald (v := va_rf (μ.2.2.1 o j.toNatClampNeg)) (ty := .object "GateSayings$Town") hx hb hc (vm_arrI hK 4 rfl N _) rfl (fun q => by cases q) (by rw [arrV_size]; exact hin) (by rw [arrV_read _ _ hlt]) rfl rfl hd kk
    · obtain ⟨ho, -, hc⟩ := hR.2.2 o _ hsh
      rw [vm_cR (Or.inr rfl)] at hc
      exact W.aald (v := va_rf (μ.2.2.1 o j.toNatClampNeg)) (ty := .array .int) hx hb hc (vm_arrI hK 5 rfl N _) rfl (fun q => by cases q) (by rw [arrV_size]; exact hin) (by rw [arrV_read _ _ hlt]) rfl rfl hd kk
theorem vm_s_alen {t N : Nat} (hx : p.tables.exec = Jvm.exec) (hb : c.code = bb) (hK : va_K D vm_cls (vm_tys A) s) (hR : vm_Rp D A n0 μ H) (hsh : μ.1 o = some (.inr (t, N))) (hd : decode bb pc = .ok (.arraylength, 1))
    (kk : W p l e R s m args below meth c H locs cells slots Q (F0 m (pc + 1) ls (.int (Int32.ofNat N) :: r))) : W p l e R s m args below meth c H locs cells slots Q (F0 m pc ls (.ref o :: r)) := by
  obtain ⟨ho, ht, hc⟩ := hR.2.2 o _ hsh
  rcases (by omega : t = 0 ∨ t = 1 ∨ t = 2 ∨ t = 3 ∨ t = 4 ∨ t = 5) with rfl | rfl | rfl | rfl | rfl | rfl
  · rw [vm_cI (by omega)] at hc
    exact W.alen (n := Int32.ofNat N) hx hb hc (vm_arrI hK 0 rfl N _) (by rw [arrV_size] <;> rfl) rfl rfl hd kk
  · rw [vm_cI (by omega)] at hc
    exact W.alen (n := Int32.ofNat N) hx hb hc (vm_arrI hK 1 rfl N _) (by rw [arrV_size] <;> rfl) rfl rfl hd kk
  · rw [vm_cI (by omega)] at hc
    exact W.alen (n := Int32.ofNat N) hx hb hc (vm_arrI hK 2 rfl N _) (by rw [arrV_size] <;> rfl) rfl rfl hd kk
  · rw [vm_cJ] at hc
    exact W.alen (n := Int32.ofNat N) hx hb hc (vm_arrI hK 3 rfl N _) (by rw [arrV_size] <;> rfl) rfl rfl hd kk
  · rw [vm_cR (Or.inl rfl)] at hc
    exact W.alen (n := Int32.ofNat N) hx hb hc (vm_arrI hK 4 rfl N _) (by rw [arrV_size] <;> rfl) rfl rfl hd kk
  · rw [vm_cR (Or.inr rfl)] at hc
    exact W.alen (n := Int32.ofNat N) hx hb hc (vm_arrI hK 5 rfl N _) (by rw [arrV_size] <;> rfl) rfl rfl hd kk
theorem vm_Rp.putI {t N k : Nat} {v : Int32} {H1 : Heap} (hR : vm_Rp D A n0 μ H) (ht : t ≠ 3 ∧ t ≠ 4 ∧ t ≠ 5) (hsh : μ.1 o = some (.inr (t, N))) (ho : n0 ≤ o) (h6 : t < 6) (e1 : H1[o]? = some ((arrV (A t) N (fun j => .int (μ.2.1 o j))).setSlot k (.int v))) (z : H1.size = H.size) (oq : ∀ q, q ≠ o → H1[q]? = H[q]?) : vm_Rp D A n0 (vm_mI μ o k v) H1 := by
  refine hR.upd z oq ho rfl (fun q hq => ⟨rfl, vm_u_ne hq, rfl, rfl⟩) (fun e he => ?_)
  have he' : μ.1 o = some e := he
  rw [hsh] at he'
  cases he'
  refine ⟨h6, ?_⟩
  rw [vm_cI (μ := vm_mI μ o k v) ht, e1, arrV_store]
  congr 2
  funext q
  show updV _ k (.int v) q = .int (vm_u μ.2.1 o k v o q)
  rw [vm_u_eq]
  by_cases hq : q = k
  · subst hq; simp [updV]
  · simp [updV, hq]
theorem vm_s_astI {N : Nat} {j v : Int32} (hx : p.tables.exec = Jvm.exec) (hb : c.code = bb) (hK : va_K D vm_cls (vm_tys A) s) (hR : vm_Rp D A n0 μ H) (hS0 : va_S (fun q => n0 ≤ q) H0 H locs) (hin : vp_in j N) (hd : decode bb pc = .ok (i, 1))
    (h : (i = .iastore ∧ μ.1 o = some (.inr (0, N))) ∨ (i = .castore ∧ μ.1 o = some (.inr (1, N)) ∧ vp_nar .char v = v) ∨ (i = .bastore ∧ μ.1 o = some (.inr (2, N)) ∧ vp_nar .boolean v = v))
    (kk : ∀ (H1 : Heap) (locs1 : List Loc), vm_Rp D A n0 (vm_mI μ o j.toNatClampNeg v) H1 → va_S (fun q => n0 ≤ q) H0 H1 locs1 → W p l e R s m args below meth c H1 locs1 cells slots Q (F0 m (pc + 1) ls r)) : W p l e R s m args below meth c H locs cells slots Q (F0 m pc ls (.int v :: .int j :: .ref o :: r)) := by
  rcases h with ⟨rfl, hsh⟩ | ⟨rfl, hsh, hn⟩ | ⟨rfl, hsh, hn⟩
  · obtain ⟨ho, h6, hc⟩ := hR.2.2 o _ hsh
    rw [vm_cI (by omega)] at hc
    exact W.iast hx hb hc (vm_arrI hK 0 rfl N _) (fun q => by cases q) (by rw [arrV_size]; exact hin) rfl rfl hd fun H1 e z oq => kk H1 _ (hR.putI (by omega) hsh ho h6 e z oq) (hS0.put z oq ho)
  · obtain ⟨ho, h6, hc⟩ := hR.2.2 o _ hsh
    rw [vm_cI (by omega)] at hc
    have hn2 : narrow .char (.int v) = .int v := by
      have h1 : narrow .char (.int v) = .int (vp_nar .char v) := by simp [vp_nar]; try rfl
      rw [h1, hn]
    exact W.cast hx hb hc (vm_arrI hK 1 rfl N _) (fun q => by cases q) (by rw [arrV_size]; exact hin) rfl rfl hd fun H1 e z oq => kk H1 _ (hR.putI (by omega) hsh ho h6 (by rw [hn2] at e; exact e) z oq) (hS0.put z oq ho)
  · obtain ⟨ho, h6, hc⟩ := hR.2.2 o _ hsh
    rw [vm_cI (by omega)] at hc
    have hn2 : narrow .boolean (.int v) = .int v := by
      have h1 : narrow .boolean (.int v) = .int (vp_nar .boolean v) := by simp [vp_nar]; try rfl
      rw [h1, hn]
    exact W.zast hx hb hc (vm_arrI hK 2 rfl N _) (fun q => by cases q) (by rw [arrV_size]; exact hin) rfl rfl hd fun H1 e z oq => kk H1 _ (hR.putI (by omega) hsh ho h6 (by rw [hn2] at e; exact e) z oq) (hS0.put z oq ho)
theorem vm_s_astJ {N : Nat} {j : Int32} {v : Int64} (hx : p.tables.exec = Jvm.exec) (hb : c.code = bb) (hK : va_K D vm_cls (vm_tys A) s) (hR : vm_Rp D A n0 μ H) (hS0 : va_S (fun q => n0 ≤ q) H0 H locs) (hin : vp_in j N) (hd : decode bb pc = .ok (.lastore, 1))
    (hsh : μ.1 o = some (.inr (3, N)))
    (kk : ∀ (H1 : Heap) (locs1 : List Loc), vm_Rp D A n0 (vm_mJ μ o j.toNatClampNeg v) H1 → va_S (fun q => n0 ≤ q) H0 H1 locs1 → W p l e R s m args below meth c H1 locs1 cells slots Q (F0 m (pc + 1) ls r)) : W p l e R s m args below meth c H locs cells slots Q (F0 m pc ls (.long v :: .int j :: .ref o :: r)) := by
  obtain ⟨ho, h6, hc⟩ := hR.2.2 o _ hsh
  rw [vm_cJ] at hc
  refine W.last hx hb hc (vm_arrI hK 3 rfl N _) (fun q => by cases q) (by rw [arrV_size]; exact hin) rfl rfl hd fun H1 e1 z oq => kk H1 _ (hR.upd z oq ho rfl (fun q hq => ⟨rfl, rfl, rfl, vm_u_ne hq⟩) (fun e he => ?_)) (hS0.put z oq ho)
  have he' : μ.1 o = some e := he
  rw [hsh] at he'
  cases he'
  refine ⟨h6, ?_⟩
  rw [vm_cJ (μ := vm_mJ μ o j.toNatClampNeg v), e1, arrV_store]
  congr 2
  funext q
  show updV _ j.toNatClampNeg (.long v) q = .long (vm_u μ.2.2.2.1 o j.toNatClampNeg v o q)
  rw [vm_u_eq]
  by_cases hq : q = j.toNatClampNeg
  · subst hq; simp [updV]
  · simp [updV, hq]
theorem vm_s_astR {N q : Nat} {j : Int32} (hx : p.tables.exec = Jvm.exec) (hb : c.code = bb) (hK : va_K D vm_cls (vm_tys A) s) (hR : vm_Rp D A n0 μ H) (hS0 : va_S (fun q => n0 ≤ q) H0 H locs) (hin : vp_in j N) (hd : decode bb pc = .ok (.aastore, 1))
    (hsh : μ.1 o = some (.inr (4, N))) (hq : μ.1 q = some (.inl (4, fl)))
    (kk : ∀ (H1 : Heap) (locs1 : List Loc), vm_Rp D A n0 (vm_mR μ o j.toNatClampNeg (some q)) H1 → va_S (fun q => n0 ≤ q) H0 H1 locs1 → W p l e R s m args below meth c H1 locs1 cells slots Q (F0 m (pc + 1) ls r)) : W p l e R s m args below meth c H locs cells slots Q (F0 m pc ls (.ref q :: .int j :: .ref o :: r)) := by
  have hlt := vm_lt hin
  have h0 : ¬ j < 0 := fun q => hin (Or.inl q)
  obtain ⟨ho, h6, hc⟩ := hR.2.2 o _ hsh
  rw [vm_cR (Or.inl rfl)] at hc
  obtain ⟨-, -, -, cellV, g1, g2, g3, -⟩ := hR.2.2 q _ hq
  have hcls := (hK.1 4 _ (vm_cls_at (by omega))).2
  obtain ⟨kA, comp, k1, k2, k3, -⟩ := (hK.2 4 (A 4, .object "GateSayings$Town") rfl).2
  have hcomp : comp = D.1 4 := Option.some.inj (k3.symm.trans hcls.1)
  subst hcomp
  obtain ⟨kC, hkC, -⟩ := hcls.2
  refine W.aast hx hb hc (fun q h => by cases h) (fun h => by cases h) k1 k2 rfl hkC ⟨h0, by rw [arrV_size]; exact hlt⟩ g1 (fun q h => by rw [g3] at h; cases h) (by rw [g2]; exact hkC) (by rw [g2]; exact va_assign hcls) rfl rfl hd fun H1 e1 z oq => kk H1 _ (hR.upd z oq ho rfl (fun q hq => ⟨rfl, rfl, vm_u_ne hq, rfl⟩) (fun e he => ?_)) (hS0.put z oq ho)
  have he' : μ.1 o = some e := he
  rw [hsh] at he'
  cases he'
  refine ⟨h6, ?_⟩
  rw [vm_cR (μ := vm_mR μ o j.toNatClampNeg (some q)) (Or.inl rfl), e1, arrV_store]
  congr 2
  funext q'
  show updV _ j.toNatClampNeg (.ref q) q' = va_rf (vm_u μ.2.2.1 o j.toNatClampNeg (some q) o q')
  rw [vm_u_eq]
  by_cases hq : q' = j.toNatClampNeg
  · subst hq; simp [updV, va_rf]
  · simp [updV, hq]
end MEM
