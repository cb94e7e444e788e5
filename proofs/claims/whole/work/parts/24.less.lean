/-! The search for the fewest talks. -/
/-- sayings in the order in which they are reached: how many; which; with which first partner; after how many talks -/
abbrev vl_T : Type := Nat × (Nat → Nat) × (Nat → Nat) × (Nat → Nat)
def vin (f : Nat → Nat) (c : Nat) : Nat → Bool
  | 0 => false
  | n + 1 => vin f c n || decide (f n = c)
theorem vin_iff {f : Nat → Nat} {c : Nat} : ∀ {n : Nat}, vin f c n = true ↔ ∃ i, i < n ∧ f i = c
  | 0 => ⟨fun h => (by cases h), fun ⟨i, h, _⟩ => absurd h (Nat.not_lt_zero i)⟩
  | n + 1 => by
    unfold vin
    rw [Bool.or_eq_true, vin_iff (n := n), decide_eq_true_iff]
    constructor
    · rintro (⟨i, h1, h2⟩ | h)
      · exact ⟨i, by omega, h2⟩
      · exact ⟨n, by omega, h⟩
    · rintro ⟨i, h1, h2⟩
      rcases Nat.lt_or_ge i n with z | z
      · exact Or.inl ⟨i, z, h2⟩
      · obtain rfl : i = n := by omega
        exact Or.inr h2
theorem vin_u {f : Nat → Nat} {c d n : Nat} : vin (vu f n d) c (n + 1) = (vin f c n || decide (d = c)) := by
  have e : vin (vu f n d) c n = vin f c n := by
    rw [Bool.eq_iff_iff, vin_iff, vin_iff]
    constructor
    · rintro ⟨i, h1, h2⟩
      exact ⟨i, h1, by rwa [vu_ne (by omega)] at h2⟩
    · rintro ⟨i, h1, h2⟩
      exact ⟨i, h1, by rwa [vu_ne (by omega)]⟩
  show (vin (vu f n d) c n || decide (vu f n d n = c)) = _
  rw [e, vu_eq]
def rch (st : vl_T) (c pr sp : Nat) : vl_T := if vin st.2.1 c st.1 = true then st else (st.1 + 1, vu st.2.1 st.1 c, vu st.2.2.1 st.1 pr, vu st.2.2.2 st.1 sp)
/-- one talk -/
def vnx (T : vt_T) (c q : Nat) : Nat := vnr c (tB T q) (vfd (vd c) (vd (tB T q)))
def xq (T : vt_T) (p c : Nat) (pf : Nat → Nat) (sp : Nat) (st : vl_T) : Nat → vl_T
  | 0 => st
  | n + 1 => if n = p then xq T p c pf sp st n else rch (xq T p c pf sp st n) (vnx T c n) (pf n) sp
theorem xq_s (T : vt_T) (p c : Nat) (pf : Nat → Nat) (sp : Nat) (st : vl_T) (n : Nat) : xq T p c pf sp st (n + 1) = if n = p then xq T p c pf sp st n else rch (xq T p c pf sp st n) (vnx T c n) (pf n) sp := rfl
/-- behind the first n ones: none of 30 talks goes on -/
def vX (T : vt_T) (p : Nat) : Nat → vl_T
  | 0 => (1, fun _ => tB T p, fun _ => 0, fun _ => 0)
  | n + 1 => if n < (vX T p n).1 ∧ (vX T p n).2.2.2 n < 30 then xq T p ((vX T p n).2.1 n) (fun q => if (vX T p n).2.2.2 n = 0 then q else (vX T p n).2.2.1 n) ((vX T p n).2.2.2 n + 1) (vX T p n) (tP T) else vX T p n
theorem vX_s (T : vt_T) (p n : Nat) : vX T p (n + 1) = if n < (vX T p n).1 ∧ (vX T p n).2.2.2 n < 30 then xq T p ((vX T p n).2.1 n) (fun q => if (vX T p n).2.2.2 n = 0 then q else (vX T p n).2.2.1 n) ((vX T p n).2.2.2 n + 1) (vX T p n) (tP T) else vX T p n := rfl
def vl_ok (st : vl_T) : Prop := (∀ i, i < st.1 → vok (st.2.1 i) ∧ st.2.2.1 i < 8) ∧ ∀ i j, i < j → j < st.1 → st.2.1 i ≠ st.2.1 j
/-- a saying's code to the base of six -/
def ix6 (c : Nat) : Nat := 1296 * vd c 0 + 216 * vd c 1 + 36 * vd c 2 + 6 * vd c 3 + vd c 4
theorem ix6_lt {c : Nat} (h : vok c) : ix6 c < 7776 := by
  obtain ⟨h0, h1, h2, h3, h4⟩ := v_all5 h.2
  unfold ix6
  omega
theorem ix6_inj {c d : Nat} (h : vok c) (h2 : vok d) (e : ix6 c = ix6 d) : c = d := by
  obtain ⟨a0, a1, a2, a3, a4⟩ := v_all5 h.2
  obtain ⟨b0, b1, b2, b3, b4⟩ := v_all5 h2.2
  unfold ix6 at e
  refine v_ext h.1 h2.1 (v_5 ?_ ?_ ?_ ?_ ?_) <;> omega
theorem vl_many {st : vl_T} (h : vl_ok st) : st.1 ≤ 7776 := fb_holes 7776 st.1 (fun i => ix6 (st.2.1 i)) (fun i hi => ix6_lt (h.1 i hi).1) fun i j hij hj e => h.2 i j hij hj (ix6_inj (h.1 i (by omega)).1 (h.1 j hj).1 e)
theorem rch_ok {st : vl_T} {c pr sp : Nat} (h : vl_ok st) (hc : vok c) (hp : pr < 8) : vl_ok (rch st c pr sp) := by
  unfold rch
  split
  · exact h
  · rename_i hn
    refine ⟨fun i hi => ?_, fun i j hij hj => ?_⟩
    · have hi : i < st.1 + 1 := hi
      show vok (vu st.2.1 st.1 c i) ∧ vu st.2.2.1 st.1 pr i < 8
      by_cases e : i = st.1
      · subst e
        rw [vu_eq, vu_eq]
        exact ⟨hc, hp⟩
      · rw [vu_ne e, vu_ne e]
        exact h.1 i (by omega)
    · have hj : j < st.1 + 1 := hj
      show vu st.2.1 st.1 c i ≠ vu st.2.1 st.1 c j
      rw [vu_ne (by omega)]
      by_cases e : j = st.1
      · subst e
        rw [vu_eq]
        exact fun z => hn (vin_iff.mpr ⟨i, hij, z⟩)
      · rw [vu_ne e]
        exact h.2 i j hij (by omega)
theorem rch_full {st : vl_T} {c pr sp : Nat} (h : vl_ok st) (hc : vok c) (hf : 7776 ≤ st.1) : rch st c pr sp = st := by
  unfold rch
  split
  · rfl
  · rename_i hn
    exfalso
    have h2 : vl_ok (rch st c pr sp) → False := fun z => by
      have := vl_many z
      unfold rch at this
      rw [if_neg hn] at this
      have : st.1 + 1 ≤ 7776 := this
      omega
    have h3 := rch_ok (sp := sp) h hc (pr := 0) (by decide)
    have := vl_many h3
    unfold rch at this
    rw [if_neg hn] at this
    have : st.1 + 1 ≤ 7776 := this
    omega
/-- what was reached stays; what is new came with sp talks -/
def vext (st st' : vl_T) (sp : Nat) : Prop := st.1 ≤ st'.1 ∧ (∀ i, i < st.1 → st'.2.1 i = st.2.1 i ∧ st'.2.2.1 i = st.2.2.1 i ∧ st'.2.2.2 i = st.2.2.2 i) ∧ ∀ i, st.1 ≤ i → i < st'.1 → st'.2.2.2 i = sp
theorem vext.rf {st : vl_T} {sp : Nat} : vext st st sp := ⟨Nat.le_refl _, fun _ _ => ⟨rfl, rfl, rfl⟩, fun i h1 h2 => by omega⟩
theorem rch_ext {st : vl_T} {c pr sp : Nat} : vext st (rch st c pr sp) sp := by
  unfold rch
  split
  · exact vext.rf
  · refine ⟨Nat.le_succ _, fun i hi => ⟨vu_ne (by omega), vu_ne (by omega), vu_ne (by omega)⟩, fun i h1 h2 => ?_⟩
    have h2 : i < st.1 + 1 := h2
    obtain rfl : i = st.1 := by omega
    exact vu_eq
theorem vext.tr {a b c : vl_T} {sp : Nat} (h : vext a b sp) (h2 : vext b c sp) : vext a c sp := by
  refine ⟨Nat.le_trans h.1 h2.1, fun i hi => ?_, fun i h3 h4 => ?_⟩
  · obtain ⟨a1, a2, a3⟩ := h.2.1 i hi
    obtain ⟨b1, b2, b3⟩ := h2.2.1 i (Nat.lt_of_lt_of_le hi h.1)
    exact ⟨b1.trans a1, b2.trans a2, b3.trans a3⟩
  · rcases Nat.lt_or_ge i b.1 with z | z
    · exact (h2.2.1 i z).2.2.trans (h.2.2 i h3 z)
    · exact h2.2.2 i z h4
theorem xq_ext {T : vt_T} {p c sp : Nat} {pf : Nat → Nat} {st : vl_T} : ∀ n, vext st (xq T p c pf sp st n) sp
  | 0 => vext.rf
  | n + 1 => by
    rw [xq_s]
    split
    · exact xq_ext n
    · exact (xq_ext n).tr rch_ext
theorem vnx_ok {T : vt_T} {c q : Nat} (hT : vt_ok T) (hc : vok c) (hq : q < tP T) : vok (vnx T c q) := vnr_ok hc (hT.B hq)
theorem xq_ok {T : vt_T} {p c sp : Nat} {pf : Nat → Nat} {st : vl_T} (hT : vt_ok T) (hc : vok c) (hp : ∀ q, q < tP T → pf q < 8) (h : vl_ok st) : ∀ n, n ≤ tP T → vl_ok (xq T p c pf sp st n)
  | 0, _ => h
  | n + 1, hn => by
    rw [xq_s]
    split
    · exact xq_ok hT hc hp h n (by omega)
    · exact rch_ok (xq_ok hT hc hp h n (by omega)) (vnx_ok hT hc (by omega)) (hp n (by omega))
theorem vX_ok {T : vt_T} {p : Nat} (hT : vt_ok T) (hp : p < tP T) : ∀ n, vl_ok (vX T p n)
  | 0 => ⟨fun i _ => ⟨hT.B hp, show (0 : Nat) < 8 by decide⟩, fun i j hij hj => by
      have hj : j < 1 := hj
      omega⟩
  | n + 1 => by
    have ih := vX_ok hT hp n
    rw [vX_s]
    split
    · rename_i h
      refine xq_ok hT (ih.1 n h.1).1 (fun q hq => ?_) ih _ (Nat.le_refl _)
      have := hT.P6
      split
      · omega
      · exact (ih.1 n h.1).2
    · exact ih
theorem vX_ext {T : vt_T} {p : Nat} (n : Nat) : ∃ sp, vext (vX T p n) (vX T p (n + 1)) sp := by
  rw [vX_s]
  split
  · exact ⟨_, xq_ext _⟩
  · exact ⟨0, vext.rf⟩
theorem vX_keep {T : vt_T} {p n i : Nat} (hi : i < (vX T p n).1) : ∀ m, (vX T p n).1 ≤ (vX T p (n + m)).1 ∧ (vX T p (n + m)).2.1 i = (vX T p n).2.1 i ∧ (vX T p (n + m)).2.2.1 i = (vX T p n).2.2.1 i ∧ (vX T p (n + m)).2.2.2 i = (vX T p n).2.2.2 i
  | 0 => ⟨Nat.le_refl _, rfl, rfl, rfl⟩
  | m + 1 => by
    obtain ⟨h1, h2, h3, h4⟩ := vX_keep hi m
    obtain ⟨sp, e1, e2, -⟩ := vX_ext (T := T) (p := p) (n + m)
    obtain ⟨a1, a2, a3⟩ := e2 i (by omega)
    exact ⟨Nat.le_trans h1 e1, a1.trans h2, a2.trans h3, a3.trans h4⟩
theorem vX_stop {T : vt_T} {p n : Nat} (h : (vX T p n).1 ≤ n) : ∀ m, vX T p (n + m) = vX T p n
  | 0 => rfl
  | m + 1 => by
    have ih := vX_stop h m
    rw [← Nat.add_assoc, vX_s, if_neg (fun z => by rw [ih] at z; omega)]
    exact ih
/-- the first one that a gate lets in; 7777: none -/
def vlK (T : vt_T) (p g : Nat) : Nat := fa_first (fun k => decide (k < (vX T p k).1) && decide (vadm T ((vX T p k).2.1 k) g)) 7777
def vl0 (T : vt_T) (p g : Nat) : Int32 := if vlK T p g < 7777 then nI ((vX T p (vlK T p g)).2.2.2 (vlK T p g)) else -4
def vl1 (T : vt_T) (p g : Nat) : Int32 := if vlK T p g < 7777 then (if (vX T p (vlK T p g)).2.2.2 (vlK T p g) = 0 then -4 else nI ((vX T p (vlK T p g)).2.2.1 (vlK T p g))) else -4
theorem vlK_yes {T : vt_T} {p g k : Nat} (hT : vt_ok T) (hp : p < tP T) (h : k < (vX T p k).1) (h2 : vadm T ((vX T p k).2.1 k) g) (hno : ∀ i, i < k → ¬ vadm T ((vX T p i).2.1 i) g) : vlK T p g = k := by
  have := vl_many (vX_ok hT hp k)
  exact fa_first_eq (by omega) (fun j hj => by rw [decide_eq_false (hno j hj), Bool.and_false]) (fun _ => by rw [decide_eq_true h, decide_eq_true h2]; rfl)
theorem vlK_no {T : vt_T} {p g k : Nat} (h : (vX T p k).1 ≤ k) (hno : ∀ i, i < k → ¬ vadm T ((vX T p i).2.1 i) g) : vlK T p g = 7777 := by
  refine fa_first_eq (Nat.le_refl _) (fun j hj => ?_) (fun z => by omega)
  rcases Nat.lt_or_ge j k with z | z
  · rw [decide_eq_false (hno j z), Bool.and_false]
  · have := vX_stop h (j - k)
    rw [show k + (j - k) = j by omega] at this
    rw [this, decide_eq_false (by omega), Bool.false_and]
/-- the search's cells -/
def vL (μ : vm_M) (l : Nat) (st : vl_T) : Prop := (μ.1 l = some (.inl (1, [some (some (l + 1)), some (some (l + 2)), none, none, none])) ∧ μ.1 (l + 1) = some (.inr (0, 7776)) ∧ μ.1 (l + 2) = some (.inr (3, 512))) ∧
  vl_ok st ∧ μ.2.1 l 2 = nI st.1 ∧ (∀ i, i < st.1 → μ.2.1 (l + 1) i = nI (st.2.1 i * 8 + st.2.2.1 i)) ∧ ∀ c, c < 32768 → (μ.2.2.2.1 (l + 2) (c / 64)).toBitVec.getLsbD (c % 64) = vin st.2.1 c st.1
theorem rJ_eq {μ : vm_M} {o k : Nat} {v : Int64} : (vm_mJ μ o k v).2.2.2.1 o k = v := by
  show vm_u μ.2.2.2.1 o k v o k = v
  exact (congrFun vm_u_eq k).trans (if_pos rfl)
theorem rJ_nk {μ : vm_M} {o k j : Nat} {v : Int64} (h : j ≠ k) : (vm_mJ μ o k v).2.2.2.1 o j = μ.2.2.2.1 o j := by
  show vm_u μ.2.2.2.1 o k v o j = _
  exact (congrFun vm_u_eq j).trans (if_neg h)
theorem vx.mJ {μ : vm_M} {lo hi o k : Nat} {v : Int64} (h1 : lo ≤ o) (h2 : o ≤ hi) : vx μ (vm_mJ μ o k v) lo hi := ⟨rfl, rfl, fun x hx => ⟨rfl, rfl, if_neg (by omega)⟩⟩
theorem v_bit1 : ∀ k, k < 64 → (lN 1 <<< ((nI k).toInt64 &&& 63)).toBitVec = BitVec.twoPow 64 k := by decide +kernel
theorem v_and63 (x : Nat) : x &&& 63 = x % 64 := Nat.and_two_pow_sub_one_eq_mod x 6
theorem v_tp0 : ∀ k, k < 64 → BitVec.twoPow 64 k ≠ 0#64 := by decide +kernel
theorem v_andbit {w m : Int64} {k : Nat} (hk : k < 64) (hm : m.toBitVec = BitVec.twoPow 64 k) : (w &&& m) = 0 ↔ w.toBitVec.getLsbD k = false := by
  rw [← Int64.toBitVec_inj, Int64.toBitVec_and, hm, BitVec.and_twoPow]
  have h0 : (0 : Int64).toBitVec = 0#64 := rfl
  rw [h0]
  cases h : w.toBitVec.getLsbD k with
  | false => simp
  | true =>
    simp only [if_true]
    exact ⟨fun z => absurd z (v_tp0 k hk), fun z => by cases z⟩
theorem v_orbit {w m : Int64} {k j : Nat} (hk : k < 64) (hj : j < 64) (hm : m.toBitVec = BitVec.twoPow 64 k) : (w ||| m).toBitVec.getLsbD j = (w.toBitVec.getLsbD j || decide (k = j)) := by
  rw [Int64.toBitVec_or, hm, BitVec.getLsbD_or, BitVec.getLsbD_twoPow]
  simp [hk]
section LESS
variable {E : vm_V} {μ : vm_M} {l t p g : Nat} {T : vt_T} {st : vl_T}
theorem vL.r0 (h : vL μ l st) : vm_gR μ l 1 0 (l + 1) := ⟨_, h.1.1, rfl⟩
theorem vL.r1 (h : vL μ l st) : vm_gR μ l 1 1 (l + 2) := ⟨_, h.1.1, rfl⟩
theorem vL.g2 (h : vL μ l st) : vm_gI μ l 1 2 (nI st.1) := ⟨_, h.1.1, rfl, h.2.2.1⟩
theorem vL.w2 (h : vL μ l st) : vm_gW μ l 1 2 := ⟨_, h.1.1, rfl⟩
theorem vL.w3 (h : vL μ l st) : vm_gW μ l 1 3 := ⟨_, h.1.1, rfl⟩
theorem vL.w4 (h : vL μ l st) : vm_gW μ l 1 4 := ⟨_, h.1.1, rfl⟩
theorem vL.ob (h : vL μ l st) : vm_ob μ l 1 := ⟨_, h.1.1⟩
theorem vL.s1 (h : vL μ l st) : μ.1 (l + 1) = some (.inr (0, 7776)) := h.1.2.1
theorem vL.s2 (h : vL μ l st) : μ.1 (l + 2) = some (.inr (3, 512)) := h.1.2.2
theorem vL.v {i : Nat} (h : vL μ l st) (hi : i < st.1) : μ.2.1 (l + 1) i = nI (st.2.1 i * 8 + st.2.2.1 i) := h.2.2.2.1 i hi
theorem c_LS_reach {c pr sp : Nat} (h : vL μ l st) (hc : vok c) (hp : pr < 8) : vm_Ex E 1 n_LS_reach [.ref l, .int (nI c), .int (nI pr)] 0 0 μ (vm_PV (fun μ' => (vx μ μ' l (l + 2) ∧ ∀ k, k ≠ 2 → μ'.2.1 l k = μ.2.1 l k) ∧ vL μ' l (rch st c pr sp))) := by
  have hcl := hc.1
  have hm := vl_many h.2.1
  have h64 := Nat.mod_lt c (show 0 < 64 by decide)
  refine vm_start (D := 0) (by decide) rfl (Nat.le_of_ble_eq_true rfl) (k := k_LS_reach) rfl (L := [.ref l, .int (nI c), .int (nI pr), .retAddr 0, .retAddr 0, .retAddr 0]) rfl ?_
  refine vm_r_iload_n rfl rfl rfl ?_
  refine vm_r_bipush (kI := nI 6) rfl ?_
  refine vm_r_ishrN rfl (by omega) (by omega) ?_
  refine vm_r_istore_n3 rfl rfl rfl ?_
  refine vm_r_iload_n rfl rfl rfl ?_
  refine vm_r_if_ltN rfl (by omega) ?_
  refine vm_r_iload_n rfl rfl rfl ?_
  refine vm_r_aload_n rfl rfl rfl ?_
  refine vm_r_getR rfl (h.r1) ?_
  refine vm_r_alen rfl (h.s2) (by decide) ?_
  first | refine vm_r_icmp_geN rfl (by omega) (by omega) (fun hn => absurd hn (by omega)) (fun _ => ?_) | refine vm_r_icmp_ge rfl (fun hn => absurd hn (by omega)) (fun _ => ?_)
  refine vm_r_aload_n rfl rfl rfl ?_
  refine vm_r_getI rfl (h.g2) ?_
  refine vm_r_sipush (kI := nI 7776) rfl ?_
  first | refine vm_r_icmp_ltN rfl (by omega) (by omega) (fun e => ?_) (fun e => ?_) | refine vm_r_icmp_lt rfl (fun e => ?_) (fun e => ?_)
  · have hb := v_bit1 (c % 64) h64
    have hv := h.2.2.2.2 c hcl
    refine vm_r_lconst (kL := lN 1) rfl ?_
    refine vm_r_iload_n rfl rfl rfl ?_
    refine vm_r_bipush (kI := nI 63) rfl ?_
    first | refine vm_r_iandN rfl ?_ | refine vm_r_iand rfl ?_
    refine vm_r_top ((congrArg nI (v_and63 c))) ?_
    refine vm_r_lshl rfl ?_
    refine vm_r_lstore4 rfl rfl ?_
    refine vm_r_aload_n rfl rfl rfl ?_
    refine vm_r_getR rfl (h.r1) ?_
    refine vm_r_iload_n rfl rfl rfl ?_
    refine vm_r_laload rfl (h.s2) (by omega) (by omega) (rfl) ?_
    refine vm_r_lload rfl rfl ?_
    refine vm_r_land rfl ?_
    refine vm_r_lconst (kL := lN 0) rfl ?_
    refine vm_r_lcmp rfl ?_
    refine vm_r_if_ne rfl (fun f => ?_) (fun f => ?_)
    · have f1 := (not_congr (v_andbit h64 hb)).mp (fun z => f ((lg_cmp_eq _ _).mpr z))
      have f2 : rch st c pr sp = st := if_pos (by rw [← hv]; simpa using f1)
      refine vm_r_vret rfl (⟨rfl, ⟨vx.rf, fun _ _ => rfl⟩, by rw [f2]; exact h⟩)
    · have f1 := (v_andbit h64 hb).mp ((lg_cmp_eq _ _).mp (Classical.not_not.mp f))
      have hvn : vin st.2.1 c st.1 = false := by rw [← hv]; exact f1
      have f2 : rch st c pr sp = (st.1 + 1, vu st.2.1 st.1 c, vu st.2.2.1 st.1 pr, vu st.2.2.2 st.1 sp) := if_neg (by rw [hvn]; decide)
      have hg2 : ∀ μ1 : vm_M, μ1.1 = μ.1 → μ1.2.1 l 2 = nI st.1 → vm_gI μ1 l 1 2 (nI st.1) := fun μ1 e1 e2 => ⟨_, by rw [e1]; exact h.1.1, rfl, e2⟩
      have ev : c * 2 ^ 3 ||| pr = c * 8 + pr := by
        rw [Nat.mul_comm c]
        exact (Nat.two_pow_add_eq_or_of_lt (i := 3) hp c).symm
      refine vm_r_aload_n rfl rfl rfl ?_
      refine vm_r_getR rfl (h.r1) ?_
      refine vm_r_iload_n rfl rfl rfl ?_
      refine vm_r_dup2 rfl rfl rfl ?_
      refine vm_r_laload rfl (h.s2) (by omega) (by omega) (rfl) ?_
      refine vm_r_lload rfl rfl ?_
      refine vm_r_lor rfl ?_
      refine vm_r_lastore rfl (h.s2) (by omega) (by omega) ?_
      refine vm_r_aload_n rfl rfl rfl ?_
      refine vm_r_getR rfl (h.r0) ?_
      refine vm_r_aload_n rfl rfl rfl ?_
      refine vm_r_getI rfl (hg2 _ rfl h.2.2.1) ?_
      refine vm_r_iload_n rfl rfl rfl ?_
      refine vm_r_iconst (kI := nI 3) rfl ?_
      refine vm_r_ishlN rfl (by omega) (by omega) ?_
      refine vm_r_iload_n rfl rfl rfl ?_
      first | refine vm_r_iorN rfl ?_ | refine vm_r_ior rfl ?_
      refine vm_r_top ((congrArg nI ev)) ?_
      refine vm_r_iastore rfl (h.s1) (by omega) (by omega) ?_
      refine vm_r_aload_n rfl rfl rfl ?_
      refine vm_r_dup rfl rfl ?_
      refine vm_r_getI rfl (hg2 _ rfl (by simp (disch := omega) only [rI_no]; exact h.2.2.1)) ?_
      refine vm_r_iconst (kI := nI 1) rfl ?_
      first | refine vm_r_iaddN rfl ?_ | refine vm_r_iadd rfl ?_
      refine vm_r_putI rfl (h.w2) ?_
      refine vm_r_vret rfl (⟨rfl, ⟨?_, fun k hk => ?_⟩, ?_⟩)
      · exact ((vx.mJ (by omega) (by omega)).tr (vf.mI (by omega) (by omega)).x).tr (vf.mI (by omega) (by omega)).x
      · rw [rI_nk hk, rI_no (by omega)]
        rfl
      · have hok := rch_ok (sp := sp) h.2.1 hc hp
        rw [f2] at hok ⊢
        refine ⟨h.1, hok, ?_, fun i hi => ?_, fun d hd => ?_⟩
        · rw [rI_eq]
        · have hi : i < st.1 + 1 := hi
          show _ = nI (vu st.2.1 st.1 c i * 8 + vu st.2.2.1 st.1 pr i)
          rw [rI_no (by omega)]
          by_cases e : i = st.1
          · subst e
            rw [rI_eq, vu_eq, vu_eq]
          · rw [rI_nk e, vu_ne e, vu_ne e]
            exact h.v (by omega)
        · show (vm_u μ.2.2.2.1 (l + 2) (c / 64) _ (l + 2) (d / 64)).toBitVec.getLsbD (d % 64) = vin (vu st.2.1 st.1 c) d (st.1 + 1)
          rw [vin_u, vm_u_eq]
          dsimp only
          rw [show c / 2 ^ 6 = c / 64 from rfl]
          have hd64 := Nat.mod_lt d (show 0 < 64 by decide)
          by_cases e : d / 64 = c / 64
          · rw [if_pos e, v_orbit h64 hd64 hb, ← h.2.2.2.2 d hd, e]
            congr 1
            rw [decide_eq_decide]
            omega
          · rw [if_neg e, h.2.2.2.2 d hd, decide_eq_false (by omega), Bool.or_false]
  · refine vm_r_vret rfl (⟨rfl, ⟨vx.rf, fun _ _ => rfl⟩, by rw [rch_full h.2.1 hc e]; exact h⟩)
theorem c_LS_goOn {c pr sp f : Nat} {pf : Nat → Nat} (h : vL μ l st) (ht : vt_C μ t T) (hd : t + 5 < l ∨ l + 2 < t) (hpP : p < tP T) (hc : vok c) (hpr : pr < 8) (hf : (f = 1 ∧ pf = fun q => q) ∨ (f = 0 ∧ pf = fun _ => pr)) :
    vm_Ex E 4 n_LS_goOn [.ref l, .ref t, .int (nI p), .int (nI (c * 8 + pr)), .int (nI f)] 0 0 μ (vm_PV (fun μ' => (vx μ μ' l (l + 2) ∧ ∀ k, k ≠ 2 → μ'.2.1 l k = μ.2.1 l k) ∧ vL μ' l (xq T p c pf sp st (tP T)))) := by
  have hP := ht.ok.P6
  have hcl := hc.1
  have e8 : (c * 8 + pr) / 2 ^ 3 = c := by omega
  have e7 : (c * 8 + pr) &&& 7 = pr := by
    rw [v_and7]
    omega
  refine vm_start (D := 3) (by decide) rfl (Nat.le_of_ble_eq_true rfl) (k := k_LS_goOn) rfl (L := [.ref l, .ref t, .int (nI p), .int (nI (c * 8 + pr)), .int (nI f), .retAddr 0, .retAddr 0, .retAddr 0, .retAddr 0]) rfl ?_
  refine vm_r_iload_n rfl rfl rfl ?_
  refine vm_r_iconst (kI := nI 3) rfl ?_
  refine vm_r_ishrN rfl (by omega) (by omega) ?_
  rw [e8]
  refine vm_r_istore5 rfl rfl ?_
  refine vm_r_iconst (kI := nI 0) rfl ?_
  refine vm_r_istore6 rfl rfl ?_
  refine vm_up (P := fun i => ∀ (μ1 : vm_M) (v w : Value), vm_nlv v = true → vm_nlv w = true → (vx μ μ1 l (l + 2) ∧ ∀ k, k ≠ 2 → μ1.2.1 l k = μ.2.1 l k) → vL μ1 l (xq T p c pf sp st i) → vm_W E (vm_Ex E 3) k_LS_goOn _ (8, [.ref l, .ref t, .int (nI p), .int (nI (c * 8 + pr)), .int (nI f), .int (nI c), .int (nI i), v, w], [], 0, 0, μ1)) (N := tP T) ?_ ?_ 0 (by omega) μ (.retAddr 0) (.retAddr 0) rfl rfl ⟨vx.rf, fun _ _ => rfl⟩ h
  · intro μ1 v w hv hw x1 h1
    have ht1 := ht.keepx x1.1 (by omega)
    refine vm_r_iload rfl rfl ?_
    refine vm_r_aload_n rfl rfl rfl ?_
    refine vm_r_getI rfl (ht1.gP) ?_
    first | refine vm_r_icmp_geN rfl (by omega) (by omega) (fun _ => ?_) (fun hn => absurd hn (by omega)) | refine vm_r_icmp_ge rfl (fun _ => ?_) (fun hn => absurd hn (by omega))
    refine vm_r_vret rfl (⟨rfl, x1, h1⟩)
  · intro i hi ih μ1 v w hv hw x1 h1
    have ht1 := ht.keepx x1.1 (by omega)
    rw [xq_s T p c pf sp st i] at ih
    refine vm_r_iload rfl rfl ?_
    refine vm_r_aload_n rfl rfl rfl ?_
    refine vm_r_getI rfl (ht1.gP) ?_
    first | refine vm_r_icmp_geN rfl (by omega) (by omega) (fun hn => absurd hn (by omega)) (fun _ => ?_) | refine vm_r_icmp_ge rfl (fun hn => absurd hn (by omega)) (fun _ => ?_)
    refine vm_r_iload rfl rfl ?_
    refine vm_r_iload_n rfl rfl rfl ?_
    first | refine vm_r_icmp_eqN rfl (by omega) (by omega) (fun e => ?_) (fun e => ?_) | refine vm_r_icmp_eq rfl (fun e => ?_) (fun e => ?_)
    · rw [if_pos e] at ih
      first | refine vm_r_iinc6N (y := 1) rfl rfl ?_ | refine vm_r_iinc6 rfl rfl ?_
      refine vm_r_goto rfl ?_
      exact ih _ _ _ hv hw x1 h1
    · rw [if_neg e] at ih
      have hBq := ht.ok.B hi
      have hBl := hBq.1
      have hnx := vnx_ok ht.ok hc hi
      rcases hf with ⟨rfl, rfl⟩ | ⟨rfl, rfl⟩
      · refine vm_r_aload_n rfl rfl rfl ?_
        refine vm_r_getR rfl (ht1.s.rB) ?_
        refine vm_r_iload rfl rfl ?_
        refine vm_r_iaload rfl (ht1.s.sB) (by omega) (by omega) (ht1.vB hi) ?_
        refine vm_r_istore7 rfl rfl ?_
        refine vm_r_iload rfl rfl ?_
        refine vm_r_iload rfl rfl ?_
        refine vm_r_iload rfl rfl ?_
        refine vm_r_iload rfl rfl ?_
        refine vm_r_cs2I rfl (by decide) (Nat.le_of_ble_eq_true rfl) (vm_Ex_le (by first | exact Nat.le_of_ble_eq_true rfl | omega) (c_SY_firstDifference (by omega) (by omega))) ?_
        refine vm_r_cs3I rfl (by decide) (Nat.le_of_ble_eq_true rfl) (vm_Ex_le (by first | exact Nat.le_of_ble_eq_true rfl | omega) (c_SY_nearer hc hBq)) ?_
        refine vm_r_istore8 rfl rfl ?_
        refine vm_r_aload_n rfl rfl rfl ?_
        refine vm_r_iload rfl rfl ?_
        refine vm_r_iload rfl rfl ?_
        first | refine vm_r_if_eqB rfl (fun hn => absurd hn (by omega)) (fun _ => ?_) | refine vm_r_if_eqN rfl (by omega) (fun hn => absurd hn (by omega)) (fun _ => ?_) | refine vm_r_if_eq rfl (fun hn => absurd hn (by omega)) (fun _ => ?_)
        refine vm_r_iload rfl rfl ?_
        refine vm_r_goto rfl ?_
        refine vm_r_cv3V rfl (by decide) (h1.ob) (Nat.le_of_ble_eq_true rfl) (vm_Ex_le (by first | exact Nat.le_of_ble_eq_true rfl | omega) (c_LS_reach (sp := sp) h1 hnx (by omega))) (fun μ2 q2 => ?_)
        first | refine vm_r_iinc6N (y := 1) rfl rfl ?_ | refine vm_r_iinc6 rfl rfl ?_
        refine vm_r_goto rfl ?_
        exact ih _ _ _ rfl rfl ⟨x1.1.tr q2.1.1, fun k hk => (q2.1.2 k hk).trans (x1.2 k hk)⟩ q2.2
      · refine vm_r_aload_n rfl rfl rfl ?_
        refine vm_r_getR rfl (ht1.s.rB) ?_
        refine vm_r_iload rfl rfl ?_
        refine vm_r_iaload rfl (ht1.s.sB) (by omega) (by omega) (ht1.vB hi) ?_
        refine vm_r_istore7 rfl rfl ?_
        refine vm_r_iload rfl rfl ?_
        refine vm_r_iload rfl rfl ?_
        refine vm_r_iload rfl rfl ?_
        refine vm_r_iload rfl rfl ?_
        refine vm_r_cs2I rfl (by decide) (Nat.le_of_ble_eq_true rfl) (vm_Ex_le (by first | exact Nat.le_of_ble_eq_true rfl | omega) (c_SY_firstDifference (by omega) (by omega))) ?_
        refine vm_r_cs3I rfl (by decide) (Nat.le_of_ble_eq_true rfl) (vm_Ex_le (by first | exact Nat.le_of_ble_eq_true rfl | omega) (c_SY_nearer hc hBq)) ?_
        refine vm_r_istore8 rfl rfl ?_
        refine vm_r_aload_n rfl rfl rfl ?_
        refine vm_r_iload rfl rfl ?_
        refine vm_r_iload rfl rfl ?_
        first | refine vm_r_if_eqB rfl (fun _ => ?_) (fun hn => absurd hn (by omega)) | refine vm_r_if_eqN rfl (by omega) (fun _ => ?_) (fun hn => absurd hn (by omega)) | refine vm_r_if_eq rfl (fun _ => ?_) (fun hn => absurd hn (by omega))
        refine vm_r_iload_n rfl rfl rfl ?_
        refine vm_r_bipush (kI := nI 7) rfl ?_
        first | refine vm_r_iandN rfl ?_ | refine vm_r_iand rfl ?_
        refine vm_r_top ((congrArg nI e7)) ?_
        refine vm_r_cv3V rfl (by decide) (h1.ob) (Nat.le_of_ble_eq_true rfl) (vm_Ex_le (by first | exact Nat.le_of_ble_eq_true rfl | omega) (c_LS_reach (sp := sp) h1 hnx hpr)) (fun μ2 q2 => ?_)
        first | refine vm_r_iinc6N (y := 1) rfl rfl ?_ | refine vm_r_iinc6 rfl rfl ?_
        refine vm_r_goto rfl ?_
        exact ih _ _ _ rfl rfl ⟨x1.1.tr q2.1.1, fun k hk => (q2.1.2 k hk).trans (x1.2 k hk)⟩ q2.2
theorem c_LS_forgetAll (h : vL μ l st) : vm_Ex E 1 n_LS_forgetAll [.ref l] 0 0 μ (vm_PV (fun μ' => (vx μ μ' l (l + 2) ∧ ∀ k, k ≠ 2 → μ'.2.1 l k = μ.2.1 l k) ∧ ∀ qc qp qs, vL μ' l (0, qc, qp, qs))) := by
  refine vm_start (D := 0) (by decide) rfl (Nat.le_of_ble_eq_true rfl) (k := k_LS_forgetAll) rfl (L := [.ref l, .retAddr 0]) rfl ?_
  refine vm_r_aload_n rfl rfl rfl ?_
  refine vm_r_iconst (kI := nI 0) rfl ?_
  refine vm_r_putI rfl (h.w2) ?_
  refine vm_r_iconst (kI := nI 0) rfl ?_
  refine vm_r_istore_n1 rfl rfl rfl ?_
  refine vm_up (P := fun i => ∀ μ1 : vm_M, (vx μ μ1 l (l + 2) ∧ ∀ k, k ≠ 2 → μ1.2.1 l k = μ.2.1 l k) → μ1.2.1 l 2 = nI 0 → (∀ j, j < i → μ1.2.2.2.1 (l + 2) j = lN 0) → vm_W E (vm_Ex E 0) k_LS_forgetAll _ (7, [.ref l, .int (nI i)], [], 0, 0, μ1)) (N := 512) ?_ ?_ 0 (by decide) _ ⟨(vf.mI (by omega) (by omega)).x, fun k hk => rI_nk hk⟩ rI_eq (fun j hj => absurd hj (Nat.not_lt_zero j))
  · intro μ1 x1 e1 hj
    have r1 : vm_gR μ1 l 1 1 (l + 2) := ⟨_, by rw [x1.1.1]; exact h.1.1, rfl⟩
    have s2 : μ1.1 (l + 2) = some (.inr (3, 512)) := by rw [x1.1.1]; exact h.s2
    refine vm_r_iload_n rfl rfl rfl ?_
    refine vm_r_aload_n rfl rfl rfl ?_
    refine vm_r_getR rfl (r1) ?_
    refine vm_r_alen rfl (s2) (by decide) ?_
    first | refine vm_r_icmp_geN rfl (by omega) (by omega) (fun _ => ?_) (fun hn => absurd hn (by omega)) | refine vm_r_icmp_ge rfl (fun _ => ?_) (fun hn => absurd hn (by omega))
    refine vm_r_vret rfl (⟨rfl, x1, fun qc qp qs => ⟨by rw [x1.1.1]; exact h.1, ⟨fun i hi => absurd hi (Nat.not_lt_zero i), fun i j _ hj => absurd hj (Nat.not_lt_zero j)⟩, e1, fun i hi => absurd hi (Nat.not_lt_zero i), fun c hc => ?_⟩⟩)
    rw [hj (c / 64) (by omega)]
    exact BitVec.getLsbD_zero
  · intro i hi ih μ1 x1 e1 hj
    have r1 : vm_gR μ1 l 1 1 (l + 2) := ⟨_, by rw [x1.1.1]; exact h.1.1, rfl⟩
    have s2 : μ1.1 (l + 2) = some (.inr (3, 512)) := by rw [x1.1.1]; exact h.s2
    refine vm_r_iload_n rfl rfl rfl ?_
    refine vm_r_aload_n rfl rfl rfl ?_
    refine vm_r_getR rfl (r1) ?_
    refine vm_r_alen rfl (s2) (by decide) ?_
    first | refine vm_r_icmp_geN rfl (by omega) (by omega) (fun hn => absurd hn (by omega)) (fun _ => ?_) | refine vm_r_icmp_ge rfl (fun hn => absurd hn (by omega)) (fun _ => ?_)
    refine vm_r_aload_n rfl rfl rfl ?_
    refine vm_r_getR rfl (r1) ?_
    refine vm_r_iload_n rfl rfl rfl ?_
    refine vm_r_lconst (kL := lN 0) rfl ?_
    refine vm_r_lastore rfl (s2) (by omega) (by omega) ?_
    first | refine vm_r_iinc1N (y := 1) rfl rfl ?_ | refine vm_r_iinc1 rfl rfl ?_
    refine vm_r_goto rfl ?_
    refine ih _ ⟨x1.1.tr (vx.mJ (by omega) (by omega)), x1.2⟩ e1 (fun j hj2 => ?_)
    by_cases e : j = i
    · subst e
      exact rJ_eq
    · rw [rJ_nk e]
      exact hj j (by omega)
end LESS
