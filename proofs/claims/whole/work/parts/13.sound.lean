/-! Soundness: what vm_Ex says of a method holds of it. -/
theorem vm_uw_in : ∀ ci, ci < 8 → ∀ w ∈ u_ws (vm_R ci) (vm_T ci) (vm_N ci), w ∈ vm_tb := by
  have h3 : vm_uws = [203, 205, 207, 223, 225, 227, 229, 231, 81, 83, 85, 154, 156, 119, 121, 123, 125, 127, 129, 131, 133, 135, 174, 176, 178, 180, 182, 184, 186, 342, 344, 346, 348, 350, 352, 354, 356, 715, 717, 719, 721, 723, 725, 727, 729, 731, 733, 735, 737, 739, 741, 743, 745, 747, 749, 751, 753, 755, 757].filterMap (fun i => lw_tbl[i]?) := by decide +kernel
  have h4 : vm_uws.all goodWord = true := by decide +kernel
  intro ci hci w hw
  have hm : w ∈ vm_uws := List.mem_flatMap.mpr ⟨ci, List.mem_range.mpr hci, hw⟩
  refine List.mem_filter.mpr ⟨?_, List.all_eq_true.mp h4 w hm⟩
  rw [h3] at hm
  obtain ⟨i, -, hi⟩ := List.mem_filterMap.mp hm
  first | exact List.mem_of_getElem? hi | exact List.getElem?_mem hi
theorem vm_nd_set {L : List Value} {a : Nat} {x : Value} (h : ∀ (k : Nat) (b : UInt64), L[k]? ≠ some (.double b)) (hx : ∀ b : UInt64, x ≠ .double b) : ∀ (k : Nat) (b : UInt64), (L.set a x)[k]? ≠ some (.double b) := by
  intro k b hk
  rw [List.getElem?_set] at hk
  split at hk
  · split at hk
    · exact hx b (Option.some.inj hk)
    · cases hk
  · exact h k b hk
theorem vm_store_ok {L L' st st' : List Value} {i : Instr} {a : Nat} {kI : Int32} (h : vm_store L i a kI st st' L') (hd : ∀ (k : Nat) (b : UInt64), L[k]? ≠ some (.double b)) : L'.length = L.length ∧ ∀ (k : Nat) (b : UInt64), L'[k]? ≠ some (.double b) := by
  obtain ⟨-, -, h⟩ := h
  rcases h with ⟨x, -, rfl, -⟩ | ⟨x, -, rfl, -⟩ | ⟨x, -, -, rfl, -⟩ | ⟨x, z, -, -, rfl, -⟩
  · exact ⟨List.length_set, vm_nd_set hd (fun b h => by cases h)⟩
  · exact ⟨List.length_set, vm_nd_set hd (fun b h => by cases h)⟩
  · exact ⟨by rw [List.length_set, List.length_set], vm_nd_set (vm_nd_set hd (fun b h => by cases h)) (fun b h => by cases h)⟩
  · exact ⟨List.length_set, vm_nd_set hd (fun b h => by cases h)⟩
theorem vm_sl_len : ∀ (as : List Value), as.all vm_isA = true → (lg_sl as).length = (vm_sl as).length
  | [], _ => rfl
  | v :: r, h => by
    have hr := vm_sl_len r (by simp only [List.all_cons, Bool.and_eq_true] at h; exact h.2)
    have hv : vm_isA v = true := by simp only [List.all_cons, Bool.and_eq_true] at h; exact h.1
    cases v <;> first | (cases hv; done) | (simp [lg_sl, vm_sl, Value.category] at hr ⊢; omega)
theorem vm_sl_at : ∀ (as : List Value) (k i : Nat) (v : Value), as.all vm_isA = true → (vm_sl as)[i]? = some v → vm_real v = true → (k + i, v) ∈ lv_args k as
  | [], _, _, _, _, h, _ => by simp [vm_sl] at h
  | w :: r, k, i, v, h, hi, hv => by
    have hr := vm_sl_at r
    have hall : r.all vm_isA = true := by simp only [List.all_cons, Bool.and_eq_true] at h; exact h.2
    have hw : vm_isA w = true := by simp only [List.all_cons, Bool.and_eq_true] at h; exact h.1
    have one : vm_sl (w :: r) = w :: vm_sl r → w.category = 1 → (k + i, v) ∈ lv_args k (w :: r) := by
      intro e hc
      rw [e] at hi
      unfold lv_args
      rw [if_neg (by rw [hc]; decide)]
      cases i with
      | zero =>
        cases hi
        exact List.mem_cons_self
      | succ j =>
        have := hr (k + 1) j v hall (by simpa using hi) hv
        rw [show k + (j + 1) = k + 1 + j by omega]
        exact List.mem_cons_of_mem _ this
    cases w with
    | int x => exact one rfl rfl
    | ref x => exact one rfl rfl
    | long x =>
      unfold lv_args
      rw [if_pos (show (Value.long x).category = 2 from rfl)]
      match i, hi with
      | 0, hi =>
        cases hi
        exact List.mem_cons_self
      | 1, hi =>
        cases hi
        cases hv
      | j + 2, hi =>
        have := hr (k + 2) j v hall (by simpa [vm_sl] using hi) hv
        rw [show k + (j + 2) = k + 2 + j by omega]
        exact List.mem_cons_of_mem _ this
    | _ => cases hw
theorem vm_sl_nd : ∀ (as : List Value) (i : Nat) (b : UInt64), as.all vm_isA = true → (vm_sl as)[i]? ≠ some (.double b)
  | [], _, _, _ => by simp [vm_sl]
  | w :: r, i, b, h => by
    have hr := vm_sl_nd r
    have hall : r.all vm_isA = true := by simp only [List.all_cons, Bool.and_eq_true] at h; exact h.2
    have hw : vm_isA w = true := by simp only [List.all_cons, Bool.and_eq_true] at h; exact h.1
    intro hi
    cases w with
    | int x =>
      cases i with
      | zero => cases hi
      | succ j => exact hr j b hall (by simpa [vm_sl] using hi)
    | ref x =>
      cases i with
      | zero => cases hi
      | succ j => exact hr j b hall (by simpa [vm_sl] using hi)
    | long x =>
      match i, hi with
      | 0, hi => cases hi
      | 1, hi => cases hi
      | j + 2, hi => exact hr j b hall (by simpa [vm_sl] using hi)
    | _ => cases hw
theorem vm_ent_at {as : List Value} {n i : Nat} {v : Value} (h : (vm_sl as ++ List.replicate n (Value.retAddr 0))[i]? = some v) (hv : vm_real v = true) : (vm_sl as)[i]? = some v := by
  by_cases hi : i < (vm_sl as).length
  · rw [List.getElem?_append_left hi] at h
    exact h
  · rw [List.getElem?_append_right (by omega), List.getElem?_replicate] at h
    split at h
    · cases h
      cases hv
    · cases h
theorem vm_ent_ok {as : List Value} {n : Nat} (h : as.all vm_isA = true) (hn : (vm_sl as).length ≤ n) : vm_lh ((lg_sl as ++ List.replicate (n - (lg_sl as).length) Slot.unset).toArray) n (vm_sl as ++ List.replicate (n - (vm_sl as).length) (.retAddr 0)) ∧ (vm_sl as ++ List.replicate (n - (vm_sl as).length) (Value.retAddr 0)).length = n ∧ ∀ (k : Nat) (b : UInt64), (vm_sl as ++ List.replicate (n - (vm_sl as).length) (Value.retAddr 0))[k]? ≠ some (.double b) := by
  have hl := lv_entry as (n := n) (by rw [vm_sl_len as h]; exact hn)
  refine ⟨⟨hl.1, hl.2.1, fun q hq => hl.2.2 q ?_⟩, ?_, fun k b hk => ?_⟩
  · obtain ⟨h1, h2⟩ := vm_lst_mem.mp hq
    have := vm_sl_at as 0 q.1 q.2 h (vm_ent_at h1 h2) h2
    rw [Nat.zero_add] at this
    exact this
  · rw [List.length_append, List.length_replicate]
    omega
  · exact vm_sl_nd as k b h (vm_ent_at hk rfl)
section SOUND
variable {p : Program} {l : Launch} {e : Env} {R : Room} {s : State} {m : MethodId} {args : Array Value} {below : List Frame} {meth : Method} {c : Code} {Q : State → Prop}
variable {bb : ByteArray} {own : String} {ini : Bool} {rt : Option FieldType}
variable {D : va_G} {A : Nat → ClassId} {n0 : Nat} {E : vm_V}
theorem vm_frame {d nL : Nat} {k : List vm_E} {Qv : Option Value → vm_M → Prop} (hx : p.tables.exec = Jvm.exec) (hb : c.code = bb) (hml : c.maxLocals = nL) (hown : s.vm.findClass own = some m.cls) (htb : ∀ w ∈ vm_tb, w.before args s = true) (hini : ini = true → meth.name = "<init>")
    (hko : vm_KO k bb own ini rt) (hKE : vm_KE D A n0 E s s.heap) (hfr : d + 9 ≤ R.frames) (hlo : 64 * d + 576 ≤ R.locals)
    (ih : ∀ (M : Nat) (as : List Value) (mc ms : Nat) (μ : vm_M) (Q' : Option Value → vm_M → Prop), vm_Ex E d M as mc ms μ Q' → vm_MM l D A n0 E d M as mc ms μ Q')
    (hret : ∀ (p' n a b : Nat) (i : Instr) (kI : Int32) (kL : Int64) (L st : List Value) (c1 d1 : Nat) (μ : vm_M) (H : Heap) (locs : List Loc) (cells slots : Nat) (ls : Array Slot), decode bb p' = .ok (i, n - p') → vm_chk own ini rt (p', i, n, a, b, kI, kL) = true →
      vm_ret Qv i b (p', L, st, c1, d1, μ) → vm_Rp D A n0 μ H → va_S (fun q => n0 ≤ q) s.heap H locs → cells ≤ R.cells → slots ≤ R.slots → W p l e R s m args below meth c H locs cells slots Q (F0 m p' ls st))
    {σ : vm_S} (hW : vm_W E (vm_Ex E d) k Qv σ) : ∀ (H : Heap) (locs : List Loc) (cells slots : Nat) (ls : Array Slot), vm_Rp D A n0 σ.2.2.2.2.2 H → va_S (fun q => n0 ≤ q) s.heap H locs → vm_lh ls nL σ.2.1 → σ.2.1.length = nL → (∀ (k : Nat) (b : UInt64), σ.2.1[k]? ≠ some (.double b)) →
      cells + σ.2.2.2.1 ≤ R.cells → slots + σ.2.2.2.2.1 ≤ R.slots → W p l e R s m args below meth c H locs cells slots Q (F0 m σ.1 ls σ.2.2.1) := by
  refine hW (fun σ => ∀ (H : Heap) (locs : List Loc) (cells slots : Nat) (ls : Array Slot), vm_Rp D A n0 σ.2.2.2.2.2 H → va_S (fun q => n0 ≤ q) s.heap H locs → vm_lh ls nL σ.2.1 → σ.2.1.length = nL → (∀ (k : Nat) (b : UInt64), σ.2.1[k]? ≠ some (.double b)) →
      cells + σ.2.2.2.1 ≤ R.cells → slots + σ.2.2.2.2.1 ≤ R.slots → W p l e R s m args below meth c H locs cells slots Q (F0 m σ.1 ls σ.2.2.1)) ?_
  intro σ hc H locs cells slots ls hR hS hl hn hdb hcl hsl
  obtain ⟨pc, i, n, a, b, kI, kL, hlk, hc⟩ := hc
  obtain ⟨hmem, hpc⟩ := vm_lk_spec hlk
  obtain ⟨hd, hk, hw⟩ := hko _ hmem
  dsimp only at hpc hd
  have hwb : ∀ w ∈ vm_need own (pc, i, n, a, b, kI, kL), w.before args s = true := fun w h => htb w (hw w h)
  have hu : ∀ ci, ci < 8 → ∀ w ∈ u_ws (vm_R ci) (vm_T ci) (vm_N ci), w.before args s = true := fun ci hci w h => htb w (vm_uw_in ci hci w h)
  rcases hc with ⟨σ', ⟨p', L, st, c0, d0, μ, rfl, hc⟩, hX⟩ | ⟨p', L, st, c0, d0, mc, ms, μ, as, Q', rfl, ha, has, hsum, hkind, hM, hX⟩ | hc
  · dsimp only at hR hS hl hn hdb hcl hsl hpc ⊢
    subst hpc
    rcases hc with ⟨st', rfl, hc⟩ | ⟨n', st', rfl, hc⟩ | ⟨L', st', rfl, hc⟩ | ⟨st', μ', rfl, hc⟩ | ⟨st', c', d', μ', rfl, hc⟩
    · have kk := hX H locs cells slots ls hR hS hl hn hdb hcl hsl
      dsimp only at kk
      rcases hc with hc | hc | hc
      · exact vm_s_pure hx hb hown hd hk hwb hc kk
      · exact vm_s_load hx hb hd hk hl hc kk
      · exact vm_s_read hx hb (hml.trans hl.1.symm) hown htb hu hKE hR hS (by omega) (by omega) (by omega) (by omega) hd hk hwb hc kk
    · have kk := hX H locs cells slots ls hR hS hl hn hdb hcl hsl
      exact vm_s_br hx hb hd hk hc kk
    · obtain ⟨g1, g2⟩ := vm_store_ok hc hdb
      exact vm_s_store hx hb hd hk hl hn hdb hc (fun ls' hl' => hX H locs cells slots ls' hR hS hl' (g1.trans hn) g2 hcl hsl)
    · exact vm_s_write hx hb (hml.trans hl.1.symm) hown hu hKE hR hS (by omega) (by omega) hini hd hk hwb hc (fun H1 locs1 g1 g2 => hX H1 locs1 cells slots ls g1 g2 hl hn hdb hcl hsl)
    · exact vm_s_alloc hx hb hown hu hKE hR hS hcl hsl hd hk hwb hc (fun H1 cells1 slots1 g1 g2 g3 g4 => hX H1 locs cells1 slots1 ls g1 g2 hl hn hdb g3 g4)
  · dsimp only at hR hS hl hn hdb hcl hsl hpc ⊢
    subst hpc
    exact vm_s_call hx hb (hml.trans hl.1.symm) hown htb hKE hR hS hfr hlo (by omega) (by omega) hd hk hw ha has hsum hkind (ih _ _ _ _ _ _ hM)
      (fun v μ' H1 locs1 hq g1 g2 => hX v μ' hq H1 locs1 _ _ ls g1 g2 hl hn hdb (by dsimp only; omega) (by dsimp only; omega))
  · have hc0 := hc
    obtain ⟨p', L, st, c0, d0, μ, rfl, -⟩ := hc0
    dsimp only at hR hS hl hn hdb hcl hsl hpc ⊢
    subst hpc
    exact hret _ n a b i kI kL L st c0 d0 μ H locs cells slots ls hd hk hc hR hS (by omega) (by omega)
theorem vm_plain_c : ∀ a, a < 161 → plainName (vm_y a).cls = true := by decide +kernel
theorem vm_sound (l : Launch) (D : va_G) (A : Nat → ClassId) (n0 : Nat) (E : vm_V) : ∀ (d M : Nat) (as : List Value) (mc ms : Nat) (μ : vm_M) (Q : Option Value → vm_M → Prop), vm_Ex E d M as mc ms μ Q → vm_MM l D A n0 E d M as mc ms μ Q
  | 0, _, _, _, _, _, _, h => h.elim
  | d + 1, M, as, mc, ms, μ, Q, h => by
    obtain ⟨hM, hall, hlen, hW⟩ := h
    refine Met.ofW (cc := vm_b M) (maxL := vm_mx M) (ret := vm_rt M) (vm_plain_c M hM) rfl ?_
    intro p e s m args below meth c s₁ B hml hv
    obtain ⟨rfl, hRp, hKE⟩ := hv
    have hx := B.exec
    have hb := B.bytes
    have hr := B.returns
    have hts := atoms_spec (ws := vm_wsx (vm_y M) (vm_b M) (vm_mx M) (vm_rt M)) B.pre
    have htb : ∀ w ∈ vm_tb, w.before _ s = true := fun w h => hts w (List.mem_cons_of_mem _ h)
    have hown : s.vm.findClass (vm_y M).cls = some m.cls := findClass_of_methodNamed B.named
    have hlocks := B.notSynchronized
    have hnm := (name_of_methodNamed B.named B.method).1
    obtain ⟨e1, e2, e3⟩ := vm_ent_ok hall hlen
    rw [lg_entry_eq]
    refine vm_frame (ini := decide ((vm_y M).name = "<init>")) (Qv := Q) hx hb hml hown htb (fun q => hnm.trans (of_decide_eq_true q)) (vm_ko M hM) hKE (d := d) (Nat.le_refl _) (by show 64 * d + 576 ≤ 64 * (d + 1) + 512; omega) (vm_sound l D A n0 E d) ?_ hW s.heap [] 0 0 _ hRp va_S.rf e1 e2 e3 (by show 0 + mc ≤ mc; omega) (by show 0 + ms ≤ ms; omega)
    intro p' n a b i kI kL L st c1 d1 μ1 H locs cells slots ls hd hk hq hR hS hcl hsl
    obtain ⟨p2, L2, st2, c2, d2, μ2, he, hq⟩ := hq
    cases he
    refine W.widen hcl hsl ?_
    rcases hq with ⟨v, rfl, rfl, hb1, hq⟩ | ⟨rfl, rfl, hq⟩
    · have hdec : decode (vm_b M) p' = .ok (.ireturn, 1) ∧ ((vm_rt M = some .int) ∨ (vm_rt M = some .boolean ∧ b = 1)) := by
        obtain ⟨rfl, hd2, h2⟩ := vm_c2 (k := 1) hk hd
        refine ⟨hd2, ?_⟩
        simp only [Bool.or_eq_true, Bool.and_eq_true, decide_eq_true_eq] at h2
        rcases h2 with h2 | h2
        · exact Or.inl h2.1
        · exact Or.inr h2
      rcases hdec.2 with h2 | ⟨h2, hb2⟩
      · rw [h2] at hr
        exact W.iret hx hb hr (fun t ht hW => ⟨⟨_, μ1, rfl, hq, by rw [ht]; exact hR⟩, hS.F ht⟩) hS.2.2 hdec.1
      · rw [h2] at hr
        refine W.zret hx hb hr ?_ (fun t ht hW => ⟨⟨_, μ1, rfl, hq, by rw [ht]; exact hR⟩, hS.F ht⟩) hS.2.2 hdec.1
        rcases hb1 hb2 with rfl | rfl <;> decide
    · have hdec : decode (vm_b M) p' = .ok (.return_, 1) ∧ vm_rt M = none := by
        obtain ⟨rfl, hd2, h2⟩ := vm_c2 (k := 1) hk hd
        exact ⟨hd2, of_decide_eq_true h2⟩
      rw [hdec.2] at hr
      exact W.vret hx hb hr (fun t ht hW => ⟨⟨_, μ1, rfl, hq, by rw [ht]; exact hR⟩, hS.F ht⟩) hS.2.2 hdec.1
end SOUND
