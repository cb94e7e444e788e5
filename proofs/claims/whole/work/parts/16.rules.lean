/-! Rules: one for each way of an instruction; made by wip/whole/tools/genrules.py. -/
def vm_bi (P : Prop) [Decidable P] : Int32 := if P then 1 else 0
theorem vm_bi_t {P : Prop} [Decidable P] (h : P) : vm_bi P = 1 := if_pos h
theorem vm_bi_f {P : Prop} [Decidable P] (h : ¬ P) : vm_bi P = 0 := if_neg h
theorem vm_bi_01 (P : Prop) [Decidable P] : vm_bi P = 0 ∨ vm_bi P = 1 := by
  by_cases h : P
  · exact Or.inr (if_pos h)
  · exact Or.inl (if_neg h)
theorem vm_bi_0 {P : Prop} [Decidable P] : vm_bi P = 0 ↔ ¬ P := by
  unfold vm_bi
  split <;> simp_all
theorem vm_bi_c {P R : Prop} [Decidable P] [Decidable R] (h : P ↔ R) : vm_bi P = vm_bi R := by
  unfold vm_bi
  simp [h]
def vm_nlv : Value → Bool
  | .long _ => false
  | _ => true
/-- what a method without effects answers -/
def vm_PI (z : Int32) (μ : vm_M) : Option Value → vm_M → Prop := fun v μ' => v = some (.int z) ∧ μ' = μ
def vm_PX (P : Int32 → vm_M → Prop) : Option Value → vm_M → Prop := fun v μ' => ∃ z, v = some (.int z) ∧ P z μ'
def vm_PV (P : vm_M → Prop) : Option Value → vm_M → Prop := fun v μ' => v = none ∧ P μ'
/-- an object's int, an object's reference, a row -/
def vm_gI (μ : vm_M) (o a b : Nat) (v : Int32) : Prop := ∃ fl, μ.1 o = some (.inl (a, fl)) ∧ fl[b]? = some none ∧ μ.2.1 o b = v
def vm_gW (μ : vm_M) (o a b : Nat) : Prop := ∃ fl, μ.1 o = some (.inl (a, fl)) ∧ fl[b]? = some none
def vm_gR (μ : vm_M) (o a b q : Nat) : Prop := ∃ fl, μ.1 o = some (.inl (a, fl)) ∧ fl[b]? = some (some (some q))
def vm_ob (μ : vm_M) (o a : Nat) : Prop := ∃ fl, μ.1 o = some (.inl (a, fl))
theorem vm_gI.w {μ : vm_M} {o a b : Nat} {v : Int32} (h : vm_gI μ o a b v) : vm_gW μ o a b := by
  obtain ⟨fl, h1, h2, -⟩ := h
  exact ⟨fl, h1, h2⟩
theorem vm_gI.ob {μ : vm_M} {o a b : Nat} {v : Int32} (h : vm_gI μ o a b v) : vm_ob μ o a := by
  obtain ⟨fl, h1, -⟩ := h
  exact ⟨fl, h1⟩
theorem vm_gW.ob {μ : vm_M} {o a b : Nat} (h : vm_gW μ o a b) : vm_ob μ o a := by
  obtain ⟨fl, h1, -⟩ := h
  exact ⟨fl, h1⟩
theorem vm_gR.ob {μ : vm_M} {o a b q : Nat} (h : vm_gR μ o a b q) : vm_ob μ o a := by
  obtain ⟨fl, h1, -⟩ := h
  exact ⟨fl, h1⟩
theorem vm_lb0 (f : Nat) : (OfNat.ofNat f : Int32) = nI f := rfl
theorem vm_c31 {n : Nat} (h : n < 32) : (nI n &&& 31) = nI n := by
  have : ∀ n, n < 32 → (nI n &&& 31) = nI n := by decide +kernel
  exact this n h
theorem vm_shl {x y : Nat} (hy : y < 32) (h : x * 2 ^ y < 2 ^ 32) : nI x <<< (nI y &&& 31) = nI (x * 2 ^ y) := by
  have e : ∀ n, n < 32 → ((nI n &&& 31).toBitVec.smod 32).toNat = n := by decide +kernel
  exact pk_shlN _ y (e y hy) h
theorem vm_shr {x y : Nat} (hx : x < 2 ^ 31) (hy : y < 32) : nI x >>> (nI y &&& 31) = nI (x / 2 ^ y) := by
  have e : ∀ n, n < 32 → ((nI n &&& 31).toBitVec.smod 32).toNat = n := by decide +kernel
  exact pk_shrN hx _ y (e y hy)
section RULES
variable {E : vm_V} {C : vm_C} {k : List vm_E} {Q : Option Value → vm_M → Prop} {q pc n a b : Nat} {kI : Int32} {kL : Int64} {L st st' : List Value} {c d : Nat} {μ μ' : vm_M} {i : Instr}
theorem vm_r_go {L' st' : List Value} {n' c' d' : Nat} (h : vm_lk k pc = some (q, i, n, a, b, kI, kL)) (hn : vm_next E i n a b kI kL (pc, L, st, c, d, μ) (n', L', st', c', d', μ')) (kk : vm_W E C k Q (n', L', st', c', d', μ')) : vm_W E C k Q (pc, L, st, c, d, μ) :=
  vm_fold ⟨q, i, n, a, b, kI, kL, h, Or.inl ⟨_, hn, kk⟩⟩
theorem vm_r_pure (h : vm_lk k pc = some (q, i, n, a, b, kI, kL)) (hp : vm_pure i a kI kL st st') (kk : vm_W E C k Q (n, L, st', c, d, μ)) : vm_W E C k Q (pc, L, st, c, d, μ) := vm_r_go h ⟨pc, L, st, c, d, μ, rfl, Or.inl ⟨st', rfl, Or.inl hp⟩⟩ kk
theorem vm_r_load (h : vm_lk k pc = some (q, i, n, a, b, kI, kL)) (hp : vm_load L i a st st') (kk : vm_W E C k Q (n, L, st', c, d, μ)) : vm_W E C k Q (pc, L, st, c, d, μ) := vm_r_go h ⟨pc, L, st, c, d, μ, rfl, Or.inl ⟨st', rfl, Or.inr (Or.inl hp)⟩⟩ kk
theorem vm_r_read (h : vm_lk k pc = some (q, i, n, a, b, kI, kL)) (hp : vm_read E μ i a b st st') (kk : vm_W E C k Q (n, L, st', c, d, μ)) : vm_W E C k Q (pc, L, st, c, d, μ) := vm_r_go h ⟨pc, L, st, c, d, μ, rfl, Or.inl ⟨st', rfl, Or.inr (Or.inr hp)⟩⟩ kk
theorem vm_r_br {n' : Nat} (h : vm_lk k pc = some (q, i, n, a, b, kI, kL)) (hp : vm_br pc i a n st st' n') (kk : vm_W E C k Q (n', L, st', c, d, μ)) : vm_W E C k Q (pc, L, st, c, d, μ) := vm_r_go h ⟨pc, L, st, c, d, μ, rfl, Or.inr (Or.inl ⟨n', st', rfl, hp⟩)⟩ kk
theorem vm_r_store {L' : List Value} (h : vm_lk k pc = some (q, i, n, a, b, kI, kL)) (hp : vm_store L i a kI st st' L') (kk : vm_W E C k Q (n, L', st', c, d, μ)) : vm_W E C k Q (pc, L, st, c, d, μ) := vm_r_go h ⟨pc, L, st, c, d, μ, rfl, Or.inr (Or.inr (Or.inl ⟨L', st', rfl, hp⟩))⟩ kk
theorem vm_r_write (h : vm_lk k pc = some (q, i, n, a, b, kI, kL)) (hp : vm_write μ i a b st st' μ') (kk : vm_W E C k Q (n, L, st', c, d, μ')) : vm_W E C k Q (pc, L, st, c, d, μ) := vm_r_go h ⟨pc, L, st, c, d, μ, rfl, Or.inr (Or.inr (Or.inr (Or.inl ⟨st', μ', rfl, hp⟩)))⟩ kk
theorem vm_r_alloc {c' d' : Nat} (h : vm_lk k pc = some (q, i, n, a, b, kI, kL)) (hp : vm_alloc μ i a b c d st st' c' d' μ') (kk : vm_W E C k Q (n, L, st', c', d', μ')) : vm_W E C k Q (pc, L, st, c, d, μ) := vm_r_go h ⟨pc, L, st, c, d, μ, rfl, Or.inr (Or.inr (Or.inr (Or.inr ⟨st', c', d', μ', rfl, hp⟩)))⟩ kk
theorem vm_r_top {x y : Int32} (h : x = y) (kk : vm_W E C k Q (pc, L, .int y :: st, c, d, μ)) : vm_W E C k Q (pc, L, .int x :: st, c, d, μ) := h ▸ kk
theorem vm_r_topJ {x y : Int64} (h : x = y) (kk : vm_W E C k Q (pc, L, .long y :: st, c, d, μ)) : vm_W E C k Q (pc, L, .long x :: st, c, d, μ) := h ▸ kk
theorem vm_r_st {σ τ : vm_S} (h : σ = τ) (kk : vm_W E C k Q τ) : vm_W E C k Q σ := h ▸ kk
theorem vm_r_iconst {z : Int} (h : vm_lk k pc = some (q, (.iconst z), n, a, b, kI, kL)) (kk : vm_W E C k Q (n, L, .int kI :: st, c, d, μ)) : vm_W E C k Q (pc, L, st, c, d, μ) := vm_r_pure h (Or.inl ⟨Or.inl ⟨z, rfl⟩, rfl⟩) kk
theorem vm_r_bipush {z : Int} (h : vm_lk k pc = some (q, (.bipush z), n, a, b, kI, kL)) (kk : vm_W E C k Q (n, L, .int kI :: st, c, d, μ)) : vm_W E C k Q (pc, L, st, c, d, μ) := vm_r_pure h (Or.inl ⟨Or.inr (Or.inl ⟨z, rfl⟩), rfl⟩) kk
theorem vm_r_sipush {z : Int} (h : vm_lk k pc = some (q, (.sipush z), n, a, b, kI, kL)) (kk : vm_W E C k Q (n, L, .int kI :: st, c, d, μ)) : vm_W E C k Q (pc, L, st, c, d, μ) := vm_r_pure h (Or.inl ⟨Or.inr (Or.inr (Or.inl ⟨z, rfl⟩)), rfl⟩) kk
theorem vm_r_ldc {z : Nat} (h : vm_lk k pc = some (q, (.ldc z), n, 0, b, kI, kL)) (kk : vm_W E C k Q (n, L, .int kI :: st, c, d, μ)) : vm_W E C k Q (pc, L, st, c, d, μ) := vm_r_pure h (Or.inl ⟨Or.inr (Or.inr (Or.inr (Or.inl ⟨z, rfl, rfl⟩))), rfl⟩) kk
theorem vm_r_ldc_w {z : Nat} (h : vm_lk k pc = some (q, (.ldc_w z), n, a, b, kI, kL)) (kk : vm_W E C k Q (n, L, .int kI :: st, c, d, μ)) : vm_W E C k Q (pc, L, st, c, d, μ) := vm_r_pure h (Or.inl ⟨Or.inr (Or.inr (Or.inr (Or.inr ⟨z, rfl⟩))), rfl⟩) kk
theorem vm_r_lconst {z : Fin 2} (h : vm_lk k pc = some (q, (.lconst z), n, a, b, kI, kL)) (kk : vm_W E C k Q (n, L, .long kL :: st, c, d, μ)) : vm_W E C k Q (pc, L, st, c, d, μ) := vm_r_pure h (Or.inr (Or.inl ⟨Or.inl ⟨z, rfl⟩, rfl⟩)) kk
theorem vm_r_ldc2_w {z : Nat} (h : vm_lk k pc = some (q, (.ldc2_w z), n, a, b, kI, kL)) (kk : vm_W E C k Q (n, L, .long kL :: st, c, d, μ)) : vm_W E C k Q (pc, L, st, c, d, μ) := vm_r_pure h (Or.inr (Or.inl ⟨Or.inr ⟨z, rfl⟩, rfl⟩)) kk
theorem vm_r_iadd {x y : Int32} (h : vm_lk k pc = some (q, .iadd, n, a, b, kI, kL)) (kk : vm_W E C k Q (n, L, .int (x + y) :: st, c, d, μ)) : vm_W E C k Q (pc, L, .int y :: .int x :: st, c, d, μ) := vm_r_pure h (Or.inr (Or.inr (Or.inl ⟨x, y, st, rfl, Or.inl ⟨rfl, rfl⟩⟩))) kk
theorem vm_r_isub {x y : Int32} (h : vm_lk k pc = some (q, .isub, n, a, b, kI, kL)) (kk : vm_W E C k Q (n, L, .int (x - y) :: st, c, d, μ)) : vm_W E C k Q (pc, L, .int y :: .int x :: st, c, d, μ) := vm_r_pure h (Or.inr (Or.inr (Or.inl ⟨x, y, st, rfl, Or.inr (Or.inl ⟨rfl, rfl⟩)⟩))) kk
theorem vm_r_imul {x y : Int32} (h : vm_lk k pc = some (q, .imul, n, a, b, kI, kL)) (kk : vm_W E C k Q (n, L, .int (x * y) :: st, c, d, μ)) : vm_W E C k Q (pc, L, .int y :: .int x :: st, c, d, μ) := vm_r_pure h (Or.inr (Or.inr (Or.inl ⟨x, y, st, rfl, Or.inr (Or.inr (Or.inl ⟨rfl, rfl⟩))⟩))) kk
theorem vm_r_idiv {x y : Int32} (h : vm_lk k pc = some (q, .idiv, n, a, b, kI, kL)) (hy : ¬ y = 0) (kk : vm_W E C k Q (n, L, .int (x / y) :: st, c, d, μ)) : vm_W E C k Q (pc, L, .int y :: .int x :: st, c, d, μ) := vm_r_pure h (Or.inr (Or.inr (Or.inl ⟨x, y, st, rfl, Or.inr (Or.inr (Or.inr (Or.inl ⟨rfl, hy, rfl⟩)))⟩))) kk
theorem vm_r_irem {x y : Int32} (h : vm_lk k pc = some (q, .irem, n, a, b, kI, kL)) (hy : ¬ y = 0) (kk : vm_W E C k Q (n, L, .int (x - x / y * y) :: st, c, d, μ)) : vm_W E C k Q (pc, L, .int y :: .int x :: st, c, d, μ) := vm_r_pure h (Or.inr (Or.inr (Or.inl ⟨x, y, st, rfl, Or.inr (Or.inr (Or.inr (Or.inr (Or.inl ⟨rfl, hy, rfl⟩))))⟩))) kk
theorem vm_r_iand {x y : Int32} (h : vm_lk k pc = some (q, .iand, n, a, b, kI, kL)) (kk : vm_W E C k Q (n, L, .int (x &&& y) :: st, c, d, μ)) : vm_W E C k Q (pc, L, .int y :: .int x :: st, c, d, μ) := vm_r_pure h (Or.inr (Or.inr (Or.inl ⟨x, y, st, rfl, Or.inr (Or.inr (Or.inr (Or.inr (Or.inr (Or.inl ⟨rfl, rfl⟩)))))⟩))) kk
theorem vm_r_ior {x y : Int32} (h : vm_lk k pc = some (q, .ior, n, a, b, kI, kL)) (kk : vm_W E C k Q (n, L, .int (x ||| y) :: st, c, d, μ)) : vm_W E C k Q (pc, L, .int y :: .int x :: st, c, d, μ) := vm_r_pure h (Or.inr (Or.inr (Or.inl ⟨x, y, st, rfl, Or.inr (Or.inr (Or.inr (Or.inr (Or.inr (Or.inr (Or.inl ⟨rfl, rfl⟩))))))⟩))) kk
theorem vm_r_ixor {x y : Int32} (h : vm_lk k pc = some (q, .ixor, n, a, b, kI, kL)) (kk : vm_W E C k Q (n, L, .int (x ^^^ y) :: st, c, d, μ)) : vm_W E C k Q (pc, L, .int y :: .int x :: st, c, d, μ) := vm_r_pure h (Or.inr (Or.inr (Or.inl ⟨x, y, st, rfl, Or.inr (Or.inr (Or.inr (Or.inr (Or.inr (Or.inr (Or.inr (Or.inl ⟨rfl, rfl⟩)))))))⟩))) kk
theorem vm_r_ishl {x y : Int32} (h : vm_lk k pc = some (q, .ishl, n, a, b, kI, kL)) (kk : vm_W E C k Q (n, L, .int (x <<< (y &&& 31)) :: st, c, d, μ)) : vm_W E C k Q (pc, L, .int y :: .int x :: st, c, d, μ) := vm_r_pure h (Or.inr (Or.inr (Or.inl ⟨x, y, st, rfl, Or.inr (Or.inr (Or.inr (Or.inr (Or.inr (Or.inr (Or.inr (Or.inr (Or.inl ⟨rfl, rfl⟩))))))))⟩))) kk
theorem vm_r_ishr {x y : Int32} (h : vm_lk k pc = some (q, .ishr, n, a, b, kI, kL)) (kk : vm_W E C k Q (n, L, .int (x >>> (y &&& 31)) :: st, c, d, μ)) : vm_W E C k Q (pc, L, .int y :: .int x :: st, c, d, μ) := vm_r_pure h (Or.inr (Or.inr (Or.inl ⟨x, y, st, rfl, Or.inr (Or.inr (Or.inr (Or.inr (Or.inr (Or.inr (Or.inr (Or.inr (Or.inr (Or.inl ⟨rfl, rfl⟩)))))))))⟩))) kk
theorem vm_r_iushr {x y : Int32} (h : vm_lk k pc = some (q, .iushr, n, a, b, kI, kL)) (kk : vm_W E C k Q (n, L, .int ((x.toUInt32 >>> (y.toUInt32 &&& Int32.toUInt32 31)).toInt32) :: st, c, d, μ)) : vm_W E C k Q (pc, L, .int y :: .int x :: st, c, d, μ) := vm_r_pure h (Or.inr (Or.inr (Or.inl ⟨x, y, st, rfl, Or.inr (Or.inr (Or.inr (Or.inr (Or.inr (Or.inr (Or.inr (Or.inr (Or.inr (Or.inr (⟨rfl, rfl⟩))))))))))⟩))) kk
theorem vm_r_iaddN {x y : Nat} (h : vm_lk k pc = some (q, .iadd, n, a, b, kI, kL)) (kk : vm_W E C k Q (n, L, .int (nI (x + y)) :: st, c, d, μ)) : vm_W E C k Q (pc, L, .int (nI y) :: .int (nI x) :: st, c, d, μ) := vm_r_iadd h (vm_r_top (nI_add x y) kk)
theorem vm_r_isubN {x y : Nat} (h : vm_lk k pc = some (q, .isub, n, a, b, kI, kL)) (hle : y ≤ x) (kk : vm_W E C k Q (n, L, .int (nI (x - y)) :: st, c, d, μ)) : vm_W E C k Q (pc, L, .int (nI y) :: .int (nI x) :: st, c, d, μ) := vm_r_isub h (vm_r_top (pk_sub hle) kk)
theorem vm_r_imulN {x y : Nat} (h : vm_lk k pc = some (q, .imul, n, a, b, kI, kL)) (kk : vm_W E C k Q (n, L, .int (nI (x * y)) :: st, c, d, μ)) : vm_W E C k Q (pc, L, .int (nI y) :: .int (nI x) :: st, c, d, μ) := vm_r_imul h (vm_r_top (pk_mul x y) kk)
theorem vm_r_idivN {x y : Nat} (h : vm_lk k pc = some (q, .idiv, n, a, b, kI, kL)) (hx : x < 2 ^ 31) (h0 : 0 < y) (hy : y < 2 ^ 31) (kk : vm_W E C k Q (n, L, .int (nI (x / y)) :: st, c, d, μ)) : vm_W E C k Q (pc, L, .int (nI y) :: .int (nI x) :: st, c, d, μ) := vm_r_idiv h (nI_ne0 h0 hy) (vm_r_top (pk_div hx h0 hy) kk)
theorem vm_r_iremN {x y : Nat} (h : vm_lk k pc = some (q, .irem, n, a, b, kI, kL)) (hx : x < 2 ^ 31) (h0 : 0 < y) (hy : y < 2 ^ 31) (kk : vm_W E C k Q (n, L, .int (nI (x % y)) :: st, c, d, μ)) : vm_W E C k Q (pc, L, .int (nI y) :: .int (nI x) :: st, c, d, μ) := vm_r_irem h (nI_ne0 h0 hy) (vm_r_top (pk_rem hx h0 hy) kk)
theorem vm_r_iandN {x y : Nat} (h : vm_lk k pc = some (q, .iand, n, a, b, kI, kL)) (kk : vm_W E C k Q (n, L, .int (nI (x &&& y)) :: st, c, d, μ)) : vm_W E C k Q (pc, L, .int (nI y) :: .int (nI x) :: st, c, d, μ) := vm_r_iand h (vm_r_top (fa_and x y) kk)
theorem vm_r_iorN {x y : Nat} (h : vm_lk k pc = some (q, .ior, n, a, b, kI, kL)) (kk : vm_W E C k Q (n, L, .int (nI (x ||| y)) :: st, c, d, μ)) : vm_W E C k Q (pc, L, .int (nI y) :: .int (nI x) :: st, c, d, μ) := vm_r_ior h (vm_r_top (fa_or x y) kk)
theorem vm_r_ixorN {x y : Nat} (h : vm_lk k pc = some (q, .ixor, n, a, b, kI, kL)) (kk : vm_W E C k Q (n, L, .int (nI (x ^^^ y)) :: st, c, d, μ)) : vm_W E C k Q (pc, L, .int (nI y) :: .int (nI x) :: st, c, d, μ) := vm_r_ixor h (vm_r_top (fb_xorI x y) kk)
theorem vm_r_ishlN {x y : Nat} (h : vm_lk k pc = some (q, .ishl, n, a, b, kI, kL)) (hy : y < 32) (hx : x * 2 ^ y < 2 ^ 32) (kk : vm_W E C k Q (n, L, .int (nI (x * 2 ^ y)) :: st, c, d, μ)) : vm_W E C k Q (pc, L, .int (nI y) :: .int (nI x) :: st, c, d, μ) := vm_r_ishl h (vm_r_top (vm_shl hy hx) kk)
theorem vm_r_ishrN {x y : Nat} (h : vm_lk k pc = some (q, .ishr, n, a, b, kI, kL)) (hx : x < 2 ^ 31) (hy : y < 32) (kk : vm_W E C k Q (n, L, .int (nI (x / 2 ^ y)) :: st, c, d, μ)) : vm_W E C k Q (pc, L, .int (nI y) :: .int (nI x) :: st, c, d, μ) := vm_r_ishr h (vm_r_top (vm_shr hx hy) kk)
theorem vm_r_ladd {x y : Int64} (h : vm_lk k pc = some (q, .ladd, n, a, b, kI, kL)) (kk : vm_W E C k Q (n, L, .long (x + y) :: st, c, d, μ)) : vm_W E C k Q (pc, L, .long y :: .long x :: st, c, d, μ) := vm_r_pure h (Or.inr (Or.inr (Or.inr (Or.inl ⟨x, y, st, rfl, Or.inl ⟨rfl, rfl⟩⟩)))) kk
theorem vm_r_lmul {x y : Int64} (h : vm_lk k pc = some (q, .lmul, n, a, b, kI, kL)) (kk : vm_W E C k Q (n, L, .long (x * y) :: st, c, d, μ)) : vm_W E C k Q (pc, L, .long y :: .long x :: st, c, d, μ) := vm_r_pure h (Or.inr (Or.inr (Or.inr (Or.inl ⟨x, y, st, rfl, Or.inr (Or.inl ⟨rfl, rfl⟩)⟩)))) kk
theorem vm_r_ldiv {x y : Int64} (h : vm_lk k pc = some (q, .ldiv, n, a, b, kI, kL)) (hy : ¬ y = 0) (kk : vm_W E C k Q (n, L, .long (x / y) :: st, c, d, μ)) : vm_W E C k Q (pc, L, .long y :: .long x :: st, c, d, μ) := vm_r_pure h (Or.inr (Or.inr (Or.inr (Or.inl ⟨x, y, st, rfl, Or.inr (Or.inr (Or.inl ⟨rfl, hy, rfl⟩))⟩)))) kk
theorem vm_r_lrem {x y : Int64} (h : vm_lk k pc = some (q, .lrem, n, a, b, kI, kL)) (hy : ¬ y = 0) (kk : vm_W E C k Q (n, L, .long (x - x / y * y) :: st, c, d, μ)) : vm_W E C k Q (pc, L, .long y :: .long x :: st, c, d, μ) := vm_r_pure h (Or.inr (Or.inr (Or.inr (Or.inl ⟨x, y, st, rfl, Or.inr (Or.inr (Or.inr (Or.inl ⟨rfl, hy, rfl⟩)))⟩)))) kk
theorem vm_r_land {x y : Int64} (h : vm_lk k pc = some (q, .land, n, a, b, kI, kL)) (kk : vm_W E C k Q (n, L, .long (x &&& y) :: st, c, d, μ)) : vm_W E C k Q (pc, L, .long y :: .long x :: st, c, d, μ) := vm_r_pure h (Or.inr (Or.inr (Or.inr (Or.inl ⟨x, y, st, rfl, Or.inr (Or.inr (Or.inr (Or.inr (Or.inl ⟨rfl, rfl⟩))))⟩)))) kk
theorem vm_r_lor {x y : Int64} (h : vm_lk k pc = some (q, .lor, n, a, b, kI, kL)) (kk : vm_W E C k Q (n, L, .long (x ||| y) :: st, c, d, μ)) : vm_W E C k Q (pc, L, .long y :: .long x :: st, c, d, μ) := vm_r_pure h (Or.inr (Or.inr (Or.inr (Or.inl ⟨x, y, st, rfl, Or.inr (Or.inr (Or.inr (Or.inr (Or.inr (Or.inl ⟨rfl, rfl⟩)))))⟩)))) kk
theorem vm_r_lcmp {x y : Int64} (h : vm_lk k pc = some (q, .lcmp, n, a, b, kI, kL)) (kk : vm_W E C k Q (n, L, .int (lg_cmp x y) :: st, c, d, μ)) : vm_W E C k Q (pc, L, .long y :: .long x :: st, c, d, μ) := vm_r_pure h (Or.inr (Or.inr (Or.inr (Or.inl ⟨x, y, st, rfl, Or.inr (Or.inr (Or.inr (Or.inr (Or.inr (Or.inr (⟨rfl, rfl⟩))))))⟩)))) kk
theorem vm_r_ineg {x : Int32} (h : vm_lk k pc = some (q, .ineg, n, a, b, kI, kL)) (kk : vm_W E C k Q (n, L, .int (-x) :: st, c, d, μ)) : vm_W E C k Q (pc, L, .int x :: st, c, d, μ) := vm_r_pure h (Or.inr (Or.inr (Or.inr (Or.inr (Or.inl ⟨x, st, rfl, Or.inl ⟨rfl, rfl⟩⟩))))) kk
theorem vm_r_i2l {x : Int32} (h : vm_lk k pc = some (q, .i2l, n, a, b, kI, kL)) (kk : vm_W E C k Q (n, L, .long x.toInt64 :: st, c, d, μ)) : vm_W E C k Q (pc, L, .int x :: st, c, d, μ) := vm_r_pure h (Or.inr (Or.inr (Or.inr (Or.inr (Or.inl ⟨x, st, rfl, Or.inr (Or.inl ⟨rfl, rfl⟩)⟩))))) kk
theorem vm_r_i2c {x : Int32} (h : vm_lk k pc = some (q, .i2c, n, a, b, kI, kL)) (kk : vm_W E C k Q (n, L, .int (x.toUInt32 % 65536).toInt32 :: st, c, d, μ)) : vm_W E C k Q (pc, L, .int x :: st, c, d, μ) := vm_r_pure h (Or.inr (Or.inr (Or.inr (Or.inr (Or.inl ⟨x, st, rfl, Or.inr (Or.inr (⟨rfl, rfl⟩))⟩))))) kk
theorem vm_r_i2lN {x : Nat} (h : vm_lk k pc = some (q, .i2l, n, a, b, kI, kL)) (hx : x < 2 ^ 31) (kk : vm_W E C k Q (n, L, .long (lN x) :: st, c, d, μ)) : vm_W E C k Q (pc, L, .int (nI x) :: st, c, d, μ) := vm_r_i2l h (vm_r_topJ (nI_l hx) kk)
theorem vm_r_l2i {x : Int64} (h : vm_lk k pc = some (q, .l2i, n, a, b, kI, kL)) (kk : vm_W E C k Q (n, L, .int x.toInt32 :: st, c, d, μ)) : vm_W E C k Q (pc, L, .long x :: st, c, d, μ) := vm_r_pure h (Or.inr (Or.inr (Or.inr (Or.inr (Or.inr (Or.inl ⟨x, st, rfl, rfl, rfl⟩)))))) kk
theorem vm_r_lshl {x : Int64} {y : Int32} (h : vm_lk k pc = some (q, .lshl, n, a, b, kI, kL)) (kk : vm_W E C k Q (n, L, .long (x <<< (y.toInt64 &&& 63)) :: st, c, d, μ)) : vm_W E C k Q (pc, L, .int y :: .long x :: st, c, d, μ) := vm_r_pure h (Or.inr (Or.inr (Or.inr (Or.inr (Or.inr (Or.inr (Or.inl ⟨x, y, st, rfl, rfl, rfl⟩))))))) kk
theorem vm_r_dup {v : Value} (h : vm_lk k pc = some (q, .dup, n, a, b, kI, kL)) (hv : v.category = 1) (kk : vm_W E C k Q (n, L, v :: v :: st, c, d, μ)) : vm_W E C k Q (pc, L, v :: st, c, d, μ) := vm_r_pure h (Or.inr (Or.inr (Or.inr (Or.inr (Or.inr (Or.inr (Or.inr (Or.inl ⟨v, st, hv, rfl, Or.inl ⟨rfl, rfl⟩⟩)))))))) kk
theorem vm_r_pop {v : Value} (h : vm_lk k pc = some (q, .pop, n, a, b, kI, kL)) (hv : v.category = 1) (kk : vm_W E C k Q (n, L, st, c, d, μ)) : vm_W E C k Q (pc, L, v :: st, c, d, μ) := vm_r_pure h (Or.inr (Or.inr (Or.inr (Or.inr (Or.inr (Or.inr (Or.inr (Or.inl ⟨v, st, hv, rfl, Or.inr ⟨rfl, rfl⟩⟩)))))))) kk
theorem vm_r_dup2 {v w : Value} (h : vm_lk k pc = some (q, .dup2, n, a, b, kI, kL)) (hv : v.category = 1) (hw : w.category = 1) (kk : vm_W E C k Q (n, L, v :: w :: v :: w :: st, c, d, μ)) : vm_W E C k Q (pc, L, v :: w :: st, c, d, μ) := vm_r_pure h (Or.inr (Or.inr (Or.inr (Or.inr (Or.inr (Or.inr (Or.inr (Or.inr ⟨v, w, st, hv, hw, rfl, rfl, rfl⟩)))))))) kk
theorem vm_r_iload {x : Int32} (h : vm_lk k pc = some (q, (.iload a), n, a, b, kI, kL)) (hL : L[a]? = some (.int x)) (kk : vm_W E C k Q (n, L, .int x :: st, c, d, μ)) : vm_W E C k Q (pc, L, st, c, d, μ) := vm_r_load h (Or.inl ⟨x, hL, rfl, Or.inl rfl⟩) kk
theorem vm_r_iload_n {x : Int32} {z : Fin 4} (h : vm_lk k pc = some (q, (.iload_n z), n, a, b, kI, kL)) (hz : (z : Nat) = a) (hL : L[a]? = some (.int x)) (kk : vm_W E C k Q (n, L, .int x :: st, c, d, μ)) : vm_W E C k Q (pc, L, st, c, d, μ) := vm_r_load h (Or.inl ⟨x, hL, rfl, Or.inr ⟨z, rfl, hz⟩⟩) kk
theorem vm_r_aload {x : Nat} (h : vm_lk k pc = some (q, (.aload a), n, a, b, kI, kL)) (hL : L[a]? = some (.ref x)) (kk : vm_W E C k Q (n, L, .ref x :: st, c, d, μ)) : vm_W E C k Q (pc, L, st, c, d, μ) := vm_r_load h (Or.inr (Or.inl ⟨x, hL, rfl, Or.inl rfl⟩)) kk
theorem vm_r_aload_n {x : Nat} {z : Fin 4} (h : vm_lk k pc = some (q, (.aload_n z), n, a, b, kI, kL)) (hz : (z : Nat) = a) (hL : L[a]? = some (.ref x)) (kk : vm_W E C k Q (n, L, .ref x :: st, c, d, μ)) : vm_W E C k Q (pc, L, st, c, d, μ) := vm_r_load h (Or.inr (Or.inl ⟨x, hL, rfl, Or.inr ⟨z, rfl, hz⟩⟩)) kk
theorem vm_r_lload {x : Int64} (h : vm_lk k pc = some (q, (.lload a), n, a, b, kI, kL)) (hL : L[a]? = some (.long x)) (kk : vm_W E C k Q (n, L, .long x :: st, c, d, μ)) : vm_W E C k Q (pc, L, st, c, d, μ) := vm_r_load h (Or.inr (Or.inr (⟨x, hL, rfl, Or.inl rfl⟩))) kk
theorem vm_r_lload_n {x : Int64} {z : Fin 4} (h : vm_lk k pc = some (q, (.lload_n z), n, a, b, kI, kL)) (hz : (z : Nat) = a) (hL : L[a]? = some (.long x)) (kk : vm_W E C k Q (n, L, .long x :: st, c, d, μ)) : vm_W E C k Q (pc, L, st, c, d, μ) := vm_r_load h (Or.inr (Or.inr (⟨x, hL, rfl, Or.inr ⟨z, rfl, hz⟩⟩))) kk
theorem vm_nl_of {a : Nat} (h : ∀ j, j + 1 = a → ∀ v, L[j]? = some v → vm_nlv v = true) : vm_nl L a := by
  intro j x ha hL
  have := h j ha.symm _ hL
  cases this
theorem vm_r_istore0 {x : Int32} {v0 : Value} (h : vm_lk k pc = some (q, (.istore 0), n, 0, b, kI, kL)) (kk : vm_W E C k Q (n, .int x :: L, st, c, d, μ)) : vm_W E C k Q (pc, v0 :: L, .int x :: st, c, d, μ) := vm_r_store h ⟨by simp, (by
    intro j x hj hL
    omega), Or.inl ⟨x, rfl, rfl, Or.inl rfl⟩⟩ kk
theorem vm_r_istore_n0 {x : Int32} {v0 : Value} {z : Fin 4} (h : vm_lk k pc = some (q, (.istore_n z), n, 0, b, kI, kL)) (hz : (z : Nat) = 0) (kk : vm_W E C k Q (n, .int x :: L, st, c, d, μ)) : vm_W E C k Q (pc, v0 :: L, .int x :: st, c, d, μ) := vm_r_store h ⟨by simp, (by
    intro j x hj hL
    omega), Or.inl ⟨x, rfl, rfl, Or.inr ⟨z, rfl, hz⟩⟩⟩ kk
theorem vm_r_astore0 {x : Nat} {v0 : Value} (h : vm_lk k pc = some (q, (.astore 0), n, 0, b, kI, kL)) (kk : vm_W E C k Q (n, .ref x :: L, st, c, d, μ)) : vm_W E C k Q (pc, v0 :: L, .ref x :: st, c, d, μ) := vm_r_store h ⟨by simp, (by
    intro j x hj hL
    omega), Or.inr (Or.inl ⟨x, rfl, rfl, Or.inl rfl⟩)⟩ kk
theorem vm_r_astore_n0 {x : Nat} {v0 : Value} {z : Fin 4} (h : vm_lk k pc = some (q, (.astore_n z), n, 0, b, kI, kL)) (hz : (z : Nat) = 0) (kk : vm_W E C k Q (n, .ref x :: L, st, c, d, μ)) : vm_W E C k Q (pc, v0 :: L, .ref x :: st, c, d, μ) := vm_r_store h ⟨by simp, (by
    intro j x hj hL
    omega), Or.inr (Or.inl ⟨x, rfl, rfl, Or.inr ⟨z, rfl, hz⟩⟩)⟩ kk
theorem vm_r_istore1 {x : Int32} {v0 v1 : Value} (h : vm_lk k pc = some (q, (.istore 1), n, 1, b, kI, kL)) (hv : vm_nlv v0 = true) (kk : vm_W E C k Q (n, v0 :: .int x :: L, st, c, d, μ)) : vm_W E C k Q (pc, v0 :: v1 :: L, .int x :: st, c, d, μ) := vm_r_store h ⟨by simp, (by
    intro j x hj hL
    obtain rfl : j = 0 := by omega
    cases hL
    cases hv), Or.inl ⟨x, rfl, rfl, Or.inl rfl⟩⟩ kk
theorem vm_r_istore_n1 {x : Int32} {v0 v1 : Value} {z : Fin 4} (h : vm_lk k pc = some (q, (.istore_n z), n, 1, b, kI, kL)) (hz : (z : Nat) = 1) (hv : vm_nlv v0 = true) (kk : vm_W E C k Q (n, v0 :: .int x :: L, st, c, d, μ)) : vm_W E C k Q (pc, v0 :: v1 :: L, .int x :: st, c, d, μ) := vm_r_store h ⟨by simp, (by
    intro j x hj hL
    obtain rfl : j = 0 := by omega
    cases hL
    cases hv), Or.inl ⟨x, rfl, rfl, Or.inr ⟨z, rfl, hz⟩⟩⟩ kk
theorem vm_r_astore1 {x : Nat} {v0 v1 : Value} (h : vm_lk k pc = some (q, (.astore 1), n, 1, b, kI, kL)) (hv : vm_nlv v0 = true) (kk : vm_W E C k Q (n, v0 :: .ref x :: L, st, c, d, μ)) : vm_W E C k Q (pc, v0 :: v1 :: L, .ref x :: st, c, d, μ) := vm_r_store h ⟨by simp, (by
    intro j x hj hL
    obtain rfl : j = 0 := by omega
    cases hL
    cases hv), Or.inr (Or.inl ⟨x, rfl, rfl, Or.inl rfl⟩)⟩ kk
theorem vm_r_astore_n1 {x : Nat} {v0 v1 : Value} {z : Fin 4} (h : vm_lk k pc = some (q, (.astore_n z), n, 1, b, kI, kL)) (hz : (z : Nat) = 1) (hv : vm_nlv v0 = true) (kk : vm_W E C k Q (n, v0 :: .ref x :: L, st, c, d, μ)) : vm_W E C k Q (pc, v0 :: v1 :: L, .ref x :: st, c, d, μ) := vm_r_store h ⟨by simp, (by
    intro j x hj hL
    obtain rfl : j = 0 := by omega
    cases hL
    cases hv), Or.inr (Or.inl ⟨x, rfl, rfl, Or.inr ⟨z, rfl, hz⟩⟩)⟩ kk
theorem vm_r_iinc1 {x : Int32} {v0 : Value} {z : Int} (h : vm_lk k pc = some (q, (.iinc 1 z), n, 1, b, kI, kL)) (hv : vm_nlv v0 = true) (kk : vm_W E C k Q (n, v0 :: .int (x + kI) :: L, st, c, d, μ)) : vm_W E C k Q (pc, v0 :: .int x :: L, st, c, d, μ) := vm_r_store h ⟨by simp, (by
    intro j x hj hL
    obtain rfl : j = 0 := by omega
    cases hL
    cases hv), Or.inr (Or.inr (Or.inr ⟨x, z, rfl, rfl, rfl, rfl⟩))⟩ kk
theorem vm_r_iinc1N {x y : Nat} {v0 : Value} {z : Int} (h : vm_lk k pc = some (q, (.iinc 1 z), n, 1, b, nI y, kL)) (hv : vm_nlv v0 = true) (kk : vm_W E C k Q (n, v0 :: .int (nI (x + y)) :: L, st, c, d, μ)) : vm_W E C k Q (pc, v0 :: .int (nI x) :: L, st, c, d, μ) := vm_r_iinc1 h hv (vm_r_st (by rw [nI_add]) kk)
theorem vm_r_istore2 {x : Int32} {v0 v1 v2 : Value} (h : vm_lk k pc = some (q, (.istore 2), n, 2, b, kI, kL)) (hv : vm_nlv v1 = true) (kk : vm_W E C k Q (n, v0 :: v1 :: .int x :: L, st, c, d, μ)) : vm_W E C k Q (pc, v0 :: v1 :: v2 :: L, .int x :: st, c, d, μ) := vm_r_store h ⟨by simp, (by
    intro j x hj hL
    obtain rfl : j = 1 := by omega
    cases hL
    cases hv), Or.inl ⟨x, rfl, rfl, Or.inl rfl⟩⟩ kk
theorem vm_r_istore_n2 {x : Int32} {v0 v1 v2 : Value} {z : Fin 4} (h : vm_lk k pc = some (q, (.istore_n z), n, 2, b, kI, kL)) (hz : (z : Nat) = 2) (hv : vm_nlv v1 = true) (kk : vm_W E C k Q (n, v0 :: v1 :: .int x :: L, st, c, d, μ)) : vm_W E C k Q (pc, v0 :: v1 :: v2 :: L, .int x :: st, c, d, μ) := vm_r_store h ⟨by simp, (by
    intro j x hj hL
    obtain rfl : j = 1 := by omega
    cases hL
    cases hv), Or.inl ⟨x, rfl, rfl, Or.inr ⟨z, rfl, hz⟩⟩⟩ kk
theorem vm_r_astore2 {x : Nat} {v0 v1 v2 : Value} (h : vm_lk k pc = some (q, (.astore 2), n, 2, b, kI, kL)) (hv : vm_nlv v1 = true) (kk : vm_W E C k Q (n, v0 :: v1 :: .ref x :: L, st, c, d, μ)) : vm_W E C k Q (pc, v0 :: v1 :: v2 :: L, .ref x :: st, c, d, μ) := vm_r_store h ⟨by simp, (by
    intro j x hj hL
    obtain rfl : j = 1 := by omega
    cases hL
    cases hv), Or.inr (Or.inl ⟨x, rfl, rfl, Or.inl rfl⟩)⟩ kk
theorem vm_r_astore_n2 {x : Nat} {v0 v1 v2 : Value} {z : Fin 4} (h : vm_lk k pc = some (q, (.astore_n z), n, 2, b, kI, kL)) (hz : (z : Nat) = 2) (hv : vm_nlv v1 = true) (kk : vm_W E C k Q (n, v0 :: v1 :: .ref x :: L, st, c, d, μ)) : vm_W E C k Q (pc, v0 :: v1 :: v2 :: L, .ref x :: st, c, d, μ) := vm_r_store h ⟨by simp, (by
    intro j x hj hL
    obtain rfl : j = 1 := by omega
    cases hL
    cases hv), Or.inr (Or.inl ⟨x, rfl, rfl, Or.inr ⟨z, rfl, hz⟩⟩)⟩ kk
theorem vm_r_iinc2 {x : Int32} {v0 v1 : Value} {z : Int} (h : vm_lk k pc = some (q, (.iinc 2 z), n, 2, b, kI, kL)) (hv : vm_nlv v1 = true) (kk : vm_W E C k Q (n, v0 :: v1 :: .int (x + kI) :: L, st, c, d, μ)) : vm_W E C k Q (pc, v0 :: v1 :: .int x :: L, st, c, d, μ) := vm_r_store h ⟨by simp, (by
    intro j x hj hL
    obtain rfl : j = 1 := by omega
    cases hL
    cases hv), Or.inr (Or.inr (Or.inr ⟨x, z, rfl, rfl, rfl, rfl⟩))⟩ kk
theorem vm_r_iinc2N {x y : Nat} {v0 v1 : Value} {z : Int} (h : vm_lk k pc = some (q, (.iinc 2 z), n, 2, b, nI y, kL)) (hv : vm_nlv v1 = true) (kk : vm_W E C k Q (n, v0 :: v1 :: .int (nI (x + y)) :: L, st, c, d, μ)) : vm_W E C k Q (pc, v0 :: v1 :: .int (nI x) :: L, st, c, d, μ) := vm_r_iinc2 h hv (vm_r_st (by rw [nI_add]) kk)
theorem vm_r_istore3 {x : Int32} {v0 v1 v2 v3 : Value} (h : vm_lk k pc = some (q, (.istore 3), n, 3, b, kI, kL)) (hv : vm_nlv v2 = true) (kk : vm_W E C k Q (n, v0 :: v1 :: v2 :: .int x :: L, st, c, d, μ)) : vm_W E C k Q (pc, v0 :: v1 :: v2 :: v3 :: L, .int x :: st, c, d, μ) := vm_r_store h ⟨by simp, (by
    intro j x hj hL
    obtain rfl : j = 2 := by omega
    cases hL
    cases hv), Or.inl ⟨x, rfl, rfl, Or.inl rfl⟩⟩ kk
theorem vm_r_istore_n3 {x : Int32} {v0 v1 v2 v3 : Value} {z : Fin 4} (h : vm_lk k pc = some (q, (.istore_n z), n, 3, b, kI, kL)) (hz : (z : Nat) = 3) (hv : vm_nlv v2 = true) (kk : vm_W E C k Q (n, v0 :: v1 :: v2 :: .int x :: L, st, c, d, μ)) : vm_W E C k Q (pc, v0 :: v1 :: v2 :: v3 :: L, .int x :: st, c, d, μ) := vm_r_store h ⟨by simp, (by
    intro j x hj hL
    obtain rfl : j = 2 := by omega
    cases hL
    cases hv), Or.inl ⟨x, rfl, rfl, Or.inr ⟨z, rfl, hz⟩⟩⟩ kk
theorem vm_r_astore3 {x : Nat} {v0 v1 v2 v3 : Value} (h : vm_lk k pc = some (q, (.astore 3), n, 3, b, kI, kL)) (hv : vm_nlv v2 = true) (kk : vm_W E C k Q (n, v0 :: v1 :: v2 :: .ref x :: L, st, c, d, μ)) : vm_W E C k Q (pc, v0 :: v1 :: v2 :: v3 :: L, .ref x :: st, c, d, μ) := vm_r_store h ⟨by simp, (by
    intro j x hj hL
    obtain rfl : j = 2 := by omega
    cases hL
    cases hv), Or.inr (Or.inl ⟨x, rfl, rfl, Or.inl rfl⟩)⟩ kk
theorem vm_r_astore_n3 {x : Nat} {v0 v1 v2 v3 : Value} {z : Fin 4} (h : vm_lk k pc = some (q, (.astore_n z), n, 3, b, kI, kL)) (hz : (z : Nat) = 3) (hv : vm_nlv v2 = true) (kk : vm_W E C k Q (n, v0 :: v1 :: v2 :: .ref x :: L, st, c, d, μ)) : vm_W E C k Q (pc, v0 :: v1 :: v2 :: v3 :: L, .ref x :: st, c, d, μ) := vm_r_store h ⟨by simp, (by
    intro j x hj hL
    obtain rfl : j = 2 := by omega
    cases hL
    cases hv), Or.inr (Or.inl ⟨x, rfl, rfl, Or.inr ⟨z, rfl, hz⟩⟩)⟩ kk
theorem vm_r_iinc3 {x : Int32} {v0 v1 v2 : Value} {z : Int} (h : vm_lk k pc = some (q, (.iinc 3 z), n, 3, b, kI, kL)) (hv : vm_nlv v2 = true) (kk : vm_W E C k Q (n, v0 :: v1 :: v2 :: .int (x + kI) :: L, st, c, d, μ)) : vm_W E C k Q (pc, v0 :: v1 :: v2 :: .int x :: L, st, c, d, μ) := vm_r_store h ⟨by simp, (by
    intro j x hj hL
    obtain rfl : j = 2 := by omega
    cases hL
    cases hv), Or.inr (Or.inr (Or.inr ⟨x, z, rfl, rfl, rfl, rfl⟩))⟩ kk
theorem vm_r_iinc3N {x y : Nat} {v0 v1 v2 : Value} {z : Int} (h : vm_lk k pc = some (q, (.iinc 3 z), n, 3, b, nI y, kL)) (hv : vm_nlv v2 = true) (kk : vm_W E C k Q (n, v0 :: v1 :: v2 :: .int (nI (x + y)) :: L, st, c, d, μ)) : vm_W E C k Q (pc, v0 :: v1 :: v2 :: .int (nI x) :: L, st, c, d, μ) := vm_r_iinc3 h hv (vm_r_st (by rw [nI_add]) kk)
theorem vm_r_istore4 {x : Int32} {v0 v1 v2 v3 v4 : Value} (h : vm_lk k pc = some (q, (.istore 4), n, 4, b, kI, kL)) (hv : vm_nlv v3 = true) (kk : vm_W E C k Q (n, v0 :: v1 :: v2 :: v3 :: .int x :: L, st, c, d, μ)) : vm_W E C k Q (pc, v0 :: v1 :: v2 :: v3 :: v4 :: L, .int x :: st, c, d, μ) := vm_r_store h ⟨by simp, (by
    intro j x hj hL
    obtain rfl : j = 3 := by omega
    cases hL
    cases hv), Or.inl ⟨x, rfl, rfl, Or.inl rfl⟩⟩ kk
theorem vm_r_astore4 {x : Nat} {v0 v1 v2 v3 v4 : Value} (h : vm_lk k pc = some (q, (.astore 4), n, 4, b, kI, kL)) (hv : vm_nlv v3 = true) (kk : vm_W E C k Q (n, v0 :: v1 :: v2 :: v3 :: .ref x :: L, st, c, d, μ)) : vm_W E C k Q (pc, v0 :: v1 :: v2 :: v3 :: v4 :: L, .ref x :: st, c, d, μ) := vm_r_store h ⟨by simp, (by
    intro j x hj hL
    obtain rfl : j = 3 := by omega
    cases hL
    cases hv), Or.inr (Or.inl ⟨x, rfl, rfl, Or.inl rfl⟩)⟩ kk
theorem vm_r_iinc4 {x : Int32} {v0 v1 v2 v3 : Value} {z : Int} (h : vm_lk k pc = some (q, (.iinc 4 z), n, 4, b, kI, kL)) (hv : vm_nlv v3 = true) (kk : vm_W E C k Q (n, v0 :: v1 :: v2 :: v3 :: .int (x + kI) :: L, st, c, d, μ)) : vm_W E C k Q (pc, v0 :: v1 :: v2 :: v3 :: .int x :: L, st, c, d, μ) := vm_r_store h ⟨by simp, (by
    intro j x hj hL
    obtain rfl : j = 3 := by omega
    cases hL
    cases hv), Or.inr (Or.inr (Or.inr ⟨x, z, rfl, rfl, rfl, rfl⟩))⟩ kk
theorem vm_r_iinc4N {x y : Nat} {v0 v1 v2 v3 : Value} {z : Int} (h : vm_lk k pc = some (q, (.iinc 4 z), n, 4, b, nI y, kL)) (hv : vm_nlv v3 = true) (kk : vm_W E C k Q (n, v0 :: v1 :: v2 :: v3 :: .int (nI (x + y)) :: L, st, c, d, μ)) : vm_W E C k Q (pc, v0 :: v1 :: v2 :: v3 :: .int (nI x) :: L, st, c, d, μ) := vm_r_iinc4 h hv (vm_r_st (by rw [nI_add]) kk)
theorem vm_r_istore5 {x : Int32} {v0 v1 v2 v3 v4 v5 : Value} (h : vm_lk k pc = some (q, (.istore 5), n, 5, b, kI, kL)) (hv : vm_nlv v4 = true) (kk : vm_W E C k Q (n, v0 :: v1 :: v2 :: v3 :: v4 :: .int x :: L, st, c, d, μ)) : vm_W E C k Q (pc, v0 :: v1 :: v2 :: v3 :: v4 :: v5 :: L, .int x :: st, c, d, μ) := vm_r_store h ⟨by simp, (by
    intro j x hj hL
    obtain rfl : j = 4 := by omega
    cases hL
    cases hv), Or.inl ⟨x, rfl, rfl, Or.inl rfl⟩⟩ kk
theorem vm_r_astore5 {x : Nat} {v0 v1 v2 v3 v4 v5 : Value} (h : vm_lk k pc = some (q, (.astore 5), n, 5, b, kI, kL)) (hv : vm_nlv v4 = true) (kk : vm_W E C k Q (n, v0 :: v1 :: v2 :: v3 :: v4 :: .ref x :: L, st, c, d, μ)) : vm_W E C k Q (pc, v0 :: v1 :: v2 :: v3 :: v4 :: v5 :: L, .ref x :: st, c, d, μ) := vm_r_store h ⟨by simp, (by
    intro j x hj hL
    obtain rfl : j = 4 := by omega
    cases hL
    cases hv), Or.inr (Or.inl ⟨x, rfl, rfl, Or.inl rfl⟩)⟩ kk
theorem vm_r_iinc5 {x : Int32} {v0 v1 v2 v3 v4 : Value} {z : Int} (h : vm_lk k pc = some (q, (.iinc 5 z), n, 5, b, kI, kL)) (hv : vm_nlv v4 = true) (kk : vm_W E C k Q (n, v0 :: v1 :: v2 :: v3 :: v4 :: .int (x + kI) :: L, st, c, d, μ)) : vm_W E C k Q (pc, v0 :: v1 :: v2 :: v3 :: v4 :: .int x :: L, st, c, d, μ) := vm_r_store h ⟨by simp, (by
    intro j x hj hL
    obtain rfl : j = 4 := by omega
    cases hL
    cases hv), Or.inr (Or.inr (Or.inr ⟨x, z, rfl, rfl, rfl, rfl⟩))⟩ kk
theorem vm_r_iinc5N {x y : Nat} {v0 v1 v2 v3 v4 : Value} {z : Int} (h : vm_lk k pc = some (q, (.iinc 5 z), n, 5, b, nI y, kL)) (hv : vm_nlv v4 = true) (kk : vm_W E C k Q (n, v0 :: v1 :: v2 :: v3 :: v4 :: .int (nI (x + y)) :: L, st, c, d, μ)) : vm_W E C k Q (pc, v0 :: v1 :: v2 :: v3 :: v4 :: .int (nI x) :: L, st, c, d, μ) := vm_r_iinc5 h hv (vm_r_st (by rw [nI_add]) kk)
theorem vm_r_istore6 {x : Int32} {v0 v1 v2 v3 v4 v5 v6 : Value} (h : vm_lk k pc = some (q, (.istore 6), n, 6, b, kI, kL)) (hv : vm_nlv v5 = true) (kk : vm_W E C k Q (n, v0 :: v1 :: v2 :: v3 :: v4 :: v5 :: .int x :: L, st, c, d, μ)) : vm_W E C k Q (pc, v0 :: v1 :: v2 :: v3 :: v4 :: v5 :: v6 :: L, .int x :: st, c, d, μ) := vm_r_store h ⟨by simp, (by
    intro j x hj hL
    obtain rfl : j = 5 := by omega
    cases hL
    cases hv), Or.inl ⟨x, rfl, rfl, Or.inl rfl⟩⟩ kk
theorem vm_r_astore6 {x : Nat} {v0 v1 v2 v3 v4 v5 v6 : Value} (h : vm_lk k pc = some (q, (.astore 6), n, 6, b, kI, kL)) (hv : vm_nlv v5 = true) (kk : vm_W E C k Q (n, v0 :: v1 :: v2 :: v3 :: v4 :: v5 :: .ref x :: L, st, c, d, μ)) : vm_W E C k Q (pc, v0 :: v1 :: v2 :: v3 :: v4 :: v5 :: v6 :: L, .ref x :: st, c, d, μ) := vm_r_store h ⟨by simp, (by
    intro j x hj hL
    obtain rfl : j = 5 := by omega
    cases hL
    cases hv), Or.inr (Or.inl ⟨x, rfl, rfl, Or.inl rfl⟩)⟩ kk
theorem vm_r_iinc6 {x : Int32} {v0 v1 v2 v3 v4 v5 : Value} {z : Int} (h : vm_lk k pc = some (q, (.iinc 6 z), n, 6, b, kI, kL)) (hv : vm_nlv v5 = true) (kk : vm_W E C k Q (n, v0 :: v1 :: v2 :: v3 :: v4 :: v5 :: .int (x + kI) :: L, st, c, d, μ)) : vm_W E C k Q (pc, v0 :: v1 :: v2 :: v3 :: v4 :: v5 :: .int x :: L, st, c, d, μ) := vm_r_store h ⟨by simp, (by
    intro j x hj hL
    obtain rfl : j = 5 := by omega
    cases hL
    cases hv), Or.inr (Or.inr (Or.inr ⟨x, z, rfl, rfl, rfl, rfl⟩))⟩ kk
theorem vm_r_iinc6N {x y : Nat} {v0 v1 v2 v3 v4 v5 : Value} {z : Int} (h : vm_lk k pc = some (q, (.iinc 6 z), n, 6, b, nI y, kL)) (hv : vm_nlv v5 = true) (kk : vm_W E C k Q (n, v0 :: v1 :: v2 :: v3 :: v4 :: v5 :: .int (nI (x + y)) :: L, st, c, d, μ)) : vm_W E C k Q (pc, v0 :: v1 :: v2 :: v3 :: v4 :: v5 :: .int (nI x) :: L, st, c, d, μ) := vm_r_iinc6 h hv (vm_r_st (by rw [nI_add]) kk)
theorem vm_r_istore7 {x : Int32} {v0 v1 v2 v3 v4 v5 v6 v7 : Value} (h : vm_lk k pc = some (q, (.istore 7), n, 7, b, kI, kL)) (hv : vm_nlv v6 = true) (kk : vm_W E C k Q (n, v0 :: v1 :: v2 :: v3 :: v4 :: v5 :: v6 :: .int x :: L, st, c, d, μ)) : vm_W E C k Q (pc, v0 :: v1 :: v2 :: v3 :: v4 :: v5 :: v6 :: v7 :: L, .int x :: st, c, d, μ) := vm_r_store h ⟨by simp, (by
    intro j x hj hL
    obtain rfl : j = 6 := by omega
    cases hL
    cases hv), Or.inl ⟨x, rfl, rfl, Or.inl rfl⟩⟩ kk
theorem vm_r_astore7 {x : Nat} {v0 v1 v2 v3 v4 v5 v6 v7 : Value} (h : vm_lk k pc = some (q, (.astore 7), n, 7, b, kI, kL)) (hv : vm_nlv v6 = true) (kk : vm_W E C k Q (n, v0 :: v1 :: v2 :: v3 :: v4 :: v5 :: v6 :: .ref x :: L, st, c, d, μ)) : vm_W E C k Q (pc, v0 :: v1 :: v2 :: v3 :: v4 :: v5 :: v6 :: v7 :: L, .ref x :: st, c, d, μ) := vm_r_store h ⟨by simp, (by
    intro j x hj hL
    obtain rfl : j = 6 := by omega
    cases hL
    cases hv), Or.inr (Or.inl ⟨x, rfl, rfl, Or.inl rfl⟩)⟩ kk
theorem vm_r_iinc7 {x : Int32} {v0 v1 v2 v3 v4 v5 v6 : Value} {z : Int} (h : vm_lk k pc = some (q, (.iinc 7 z), n, 7, b, kI, kL)) (hv : vm_nlv v6 = true) (kk : vm_W E C k Q (n, v0 :: v1 :: v2 :: v3 :: v4 :: v5 :: v6 :: .int (x + kI) :: L, st, c, d, μ)) : vm_W E C k Q (pc, v0 :: v1 :: v2 :: v3 :: v4 :: v5 :: v6 :: .int x :: L, st, c, d, μ) := vm_r_store h ⟨by simp, (by
    intro j x hj hL
    obtain rfl : j = 6 := by omega
    cases hL
    cases hv), Or.inr (Or.inr (Or.inr ⟨x, z, rfl, rfl, rfl, rfl⟩))⟩ kk
theorem vm_r_iinc7N {x y : Nat} {v0 v1 v2 v3 v4 v5 v6 : Value} {z : Int} (h : vm_lk k pc = some (q, (.iinc 7 z), n, 7, b, nI y, kL)) (hv : vm_nlv v6 = true) (kk : vm_W E C k Q (n, v0 :: v1 :: v2 :: v3 :: v4 :: v5 :: v6 :: .int (nI (x + y)) :: L, st, c, d, μ)) : vm_W E C k Q (pc, v0 :: v1 :: v2 :: v3 :: v4 :: v5 :: v6 :: .int (nI x) :: L, st, c, d, μ) := vm_r_iinc7 h hv (vm_r_st (by rw [nI_add]) kk)
theorem vm_r_istore8 {x : Int32} {v0 v1 v2 v3 v4 v5 v6 v7 v8 : Value} (h : vm_lk k pc = some (q, (.istore 8), n, 8, b, kI, kL)) (hv : vm_nlv v7 = true) (kk : vm_W E C k Q (n, v0 :: v1 :: v2 :: v3 :: v4 :: v5 :: v6 :: v7 :: .int x :: L, st, c, d, μ)) : vm_W E C k Q (pc, v0 :: v1 :: v2 :: v3 :: v4 :: v5 :: v6 :: v7 :: v8 :: L, .int x :: st, c, d, μ) := vm_r_store h ⟨by simp, (by
    intro j x hj hL
    obtain rfl : j = 7 := by omega
    cases hL
    cases hv), Or.inl ⟨x, rfl, rfl, Or.inl rfl⟩⟩ kk
theorem vm_r_astore8 {x : Nat} {v0 v1 v2 v3 v4 v5 v6 v7 v8 : Value} (h : vm_lk k pc = some (q, (.astore 8), n, 8, b, kI, kL)) (hv : vm_nlv v7 = true) (kk : vm_W E C k Q (n, v0 :: v1 :: v2 :: v3 :: v4 :: v5 :: v6 :: v7 :: .ref x :: L, st, c, d, μ)) : vm_W E C k Q (pc, v0 :: v1 :: v2 :: v3 :: v4 :: v5 :: v6 :: v7 :: v8 :: L, .ref x :: st, c, d, μ) := vm_r_store h ⟨by simp, (by
    intro j x hj hL
    obtain rfl : j = 7 := by omega
    cases hL
    cases hv), Or.inr (Or.inl ⟨x, rfl, rfl, Or.inl rfl⟩)⟩ kk
theorem vm_r_iinc8 {x : Int32} {v0 v1 v2 v3 v4 v5 v6 v7 : Value} {z : Int} (h : vm_lk k pc = some (q, (.iinc 8 z), n, 8, b, kI, kL)) (hv : vm_nlv v7 = true) (kk : vm_W E C k Q (n, v0 :: v1 :: v2 :: v3 :: v4 :: v5 :: v6 :: v7 :: .int (x + kI) :: L, st, c, d, μ)) : vm_W E C k Q (pc, v0 :: v1 :: v2 :: v3 :: v4 :: v5 :: v6 :: v7 :: .int x :: L, st, c, d, μ) := vm_r_store h ⟨by simp, (by
    intro j x hj hL
    obtain rfl : j = 7 := by omega
    cases hL
    cases hv), Or.inr (Or.inr (Or.inr ⟨x, z, rfl, rfl, rfl, rfl⟩))⟩ kk
theorem vm_r_iinc8N {x y : Nat} {v0 v1 v2 v3 v4 v5 v6 v7 : Value} {z : Int} (h : vm_lk k pc = some (q, (.iinc 8 z), n, 8, b, nI y, kL)) (hv : vm_nlv v7 = true) (kk : vm_W E C k Q (n, v0 :: v1 :: v2 :: v3 :: v4 :: v5 :: v6 :: v7 :: .int (nI (x + y)) :: L, st, c, d, μ)) : vm_W E C k Q (pc, v0 :: v1 :: v2 :: v3 :: v4 :: v5 :: v6 :: v7 :: .int (nI x) :: L, st, c, d, μ) := vm_r_iinc8 h hv (vm_r_st (by rw [nI_add]) kk)
theorem vm_r_lstore2 {x : Int64} {v0 v1 v2 v3 : Value} (h : vm_lk k pc = some (q, (.lstore 2), n, 2, b, kI, kL)) (hv : vm_nlv v1 = true) (kk : vm_W E C k Q (n, v0 :: v1 :: .long x :: .retAddr 0 :: L, st, c, d, μ)) : vm_W E C k Q (pc, v0 :: v1 :: v2 :: v3 :: L, .long x :: st, c, d, μ) := vm_r_store h ⟨by simp, (by
    intro j x hj hL
    obtain rfl : j = 1 := by omega
    cases hL
    cases hv), Or.inr (Or.inr (Or.inl ⟨x, rfl, by simp, rfl, Or.inl rfl⟩))⟩ kk
theorem vm_r_lstore_n2 {x : Int64} {v0 v1 v2 v3 : Value} {z : Fin 4} (h : vm_lk k pc = some (q, (.lstore_n z), n, 2, b, kI, kL)) (hz : (z : Nat) = 2) (hv : vm_nlv v1 = true) (kk : vm_W E C k Q (n, v0 :: v1 :: .long x :: .retAddr 0 :: L, st, c, d, μ)) : vm_W E C k Q (pc, v0 :: v1 :: v2 :: v3 :: L, .long x :: st, c, d, μ) := vm_r_store h ⟨by simp, (by
    intro j x hj hL
    obtain rfl : j = 1 := by omega
    cases hL
    cases hv), Or.inr (Or.inr (Or.inl ⟨x, rfl, by simp, rfl, Or.inr ⟨z, rfl, hz⟩⟩))⟩ kk
theorem vm_r_lstore4 {x : Int64} {v0 v1 v2 v3 v4 v5 : Value} (h : vm_lk k pc = some (q, (.lstore 4), n, 4, b, kI, kL)) (hv : vm_nlv v3 = true) (kk : vm_W E C k Q (n, v0 :: v1 :: v2 :: v3 :: .long x :: .retAddr 0 :: L, st, c, d, μ)) : vm_W E C k Q (pc, v0 :: v1 :: v2 :: v3 :: v4 :: v5 :: L, .long x :: st, c, d, μ) := vm_r_store h ⟨by simp, (by
    intro j x hj hL
    obtain rfl : j = 3 := by omega
    cases hL
    cases hv), Or.inr (Or.inr (Or.inl ⟨x, rfl, by simp, rfl, Or.inl rfl⟩))⟩ kk
theorem vm_r_lstore5 {x : Int64} {v0 v1 v2 v3 v4 v5 v6 : Value} (h : vm_lk k pc = some (q, (.lstore 5), n, 5, b, kI, kL)) (hv : vm_nlv v4 = true) (kk : vm_W E C k Q (n, v0 :: v1 :: v2 :: v3 :: v4 :: .long x :: .retAddr 0 :: L, st, c, d, μ)) : vm_W E C k Q (pc, v0 :: v1 :: v2 :: v3 :: v4 :: v5 :: v6 :: L, .long x :: st, c, d, μ) := vm_r_store h ⟨by simp, (by
    intro j x hj hL
    obtain rfl : j = 4 := by omega
    cases hL
    cases hv), Or.inr (Or.inr (Or.inl ⟨x, rfl, by simp, rfl, Or.inl rfl⟩))⟩ kk
theorem vm_r_goto {o : Int} (h : vm_lk k pc = some (q, (.goto o), n, a, b, kI, kL)) (kk : vm_W E C k Q (a, L, st, c, d, μ)) : vm_W E C k Q (pc, L, st, c, d, μ) := vm_r_br h (Or.inl ⟨o, rfl, rfl, rfl⟩) kk
theorem vm_r_icmp_eq {x y : Int32} {o : Int} (h : vm_lk k pc = some (q, (.if_icmp .eq o), n, a, b, kI, kL)) (h1 : x = y → vm_W E C k Q (a, L, st, c, d, μ)) (h2 : ¬ (x = y) → vm_W E C k Q (n, L, st, c, d, μ)) : vm_W E C k Q (pc, L, .int y :: .int x :: st, c, d, μ) := by
  by_cases hc : vm_cond .eq x y
  · exact vm_r_br h (Or.inr (Or.inr (Or.inl ⟨.eq, o, x, y, rfl, rfl, fun q => rfl, fun q => absurd hc q⟩))) (h1 hc)
  · exact vm_r_br h (Or.inr (Or.inr (Or.inl ⟨.eq, o, x, y, rfl, rfl, fun q => absurd q hc, fun q => rfl⟩))) (h2 hc)
theorem vm_r_icmp_eqN {x y : Nat} {o : Int} (h : vm_lk k pc = some (q, (.if_icmp .eq o), n, a, b, kI, kL)) (hx : x < 2 ^ 31) (hy : y < 2 ^ 31) (h1 : x = y → vm_W E C k Q (a, L, st, c, d, μ)) (h2 : x ≠ y → vm_W E C k Q (n, L, st, c, d, μ)) : vm_W E C k Q (pc, L, .int (nI y) :: .int (nI x) :: st, c, d, μ) := vm_r_icmp_eq h (fun q => h1 ((nI_eq hx hy).mp q)) (fun q => h2 (fun e => q ((nI_eq hx hy).mpr e)))
theorem vm_r_if_eq {x : Int32} {o : Int} (h : vm_lk k pc = some (q, (.ifCond .eq o), n, a, b, kI, kL)) (h1 : x = 0 → vm_W E C k Q (a, L, st, c, d, μ)) (h2 : ¬ (x = 0) → vm_W E C k Q (n, L, st, c, d, μ)) : vm_W E C k Q (pc, L, .int x :: st, c, d, μ) := by
  by_cases hc : vm_cond .eq x 0
  · exact vm_r_br h (Or.inr (Or.inl ⟨.eq, o, x, rfl, rfl, fun q => rfl, fun q => absurd hc q⟩)) (h1 hc)
  · exact vm_r_br h (Or.inr (Or.inl ⟨.eq, o, x, rfl, rfl, fun q => absurd q hc, fun q => rfl⟩)) (h2 hc)
theorem vm_r_if_eqN {x : Nat} {o : Int} (h : vm_lk k pc = some (q, (.ifCond .eq o), n, a, b, kI, kL)) (hx : x < 2 ^ 31) (h1 : x = 0 → vm_W E C k Q (a, L, st, c, d, μ)) (h2 : 0 < x → vm_W E C k Q (n, L, st, c, d, μ)) : vm_W E C k Q (pc, L, .int (nI x) :: st, c, d, μ) := by
  rcases Nat.eq_zero_or_pos x with e | e
  · subst e
    exact vm_r_if_eq h (fun _ => h1 rfl) (fun q => absurd rfl q)
  · exact vm_r_if_eq h (fun q => absurd q (nI_ne0 e hx)) (fun _ => h2 e)
theorem vm_r_if_eqB {P : Prop} [Decidable P] {o : Int} (h : vm_lk k pc = some (q, (.ifCond .eq o), n, a, b, kI, kL)) (h1 : ¬ P → vm_W E C k Q (a, L, st, c, d, μ)) (h2 : P → vm_W E C k Q (n, L, st, c, d, μ)) : vm_W E C k Q (pc, L, .int (vm_bi P) :: st, c, d, μ) := by
  by_cases e : P
  · rw [vm_bi_t e]
    exact vm_r_if_eq h (fun q => absurd q (by decide)) (fun _ => h2 e)
  · rw [vm_bi_f e]
    exact vm_r_if_eq h (fun _ => h1 e) (fun q => absurd rfl q)
theorem vm_r_icmp_ne {x y : Int32} {o : Int} (h : vm_lk k pc = some (q, (.if_icmp .ne o), n, a, b, kI, kL)) (h1 : ¬ x = y → vm_W E C k Q (a, L, st, c, d, μ)) (h2 : ¬ (¬ x = y) → vm_W E C k Q (n, L, st, c, d, μ)) : vm_W E C k Q (pc, L, .int y :: .int x :: st, c, d, μ) := by
  by_cases hc : vm_cond .ne x y
  · exact vm_r_br h (Or.inr (Or.inr (Or.inl ⟨.ne, o, x, y, rfl, rfl, fun q => rfl, fun q => absurd hc q⟩))) (h1 hc)
  · exact vm_r_br h (Or.inr (Or.inr (Or.inl ⟨.ne, o, x, y, rfl, rfl, fun q => absurd q hc, fun q => rfl⟩))) (h2 hc)
theorem vm_r_icmp_neN {x y : Nat} {o : Int} (h : vm_lk k pc = some (q, (.if_icmp .ne o), n, a, b, kI, kL)) (hx : x < 2 ^ 31) (hy : y < 2 ^ 31) (h1 : x ≠ y → vm_W E C k Q (a, L, st, c, d, μ)) (h2 : x = y → vm_W E C k Q (n, L, st, c, d, μ)) : vm_W E C k Q (pc, L, .int (nI y) :: .int (nI x) :: st, c, d, μ) := vm_r_icmp_ne h (fun q => h1 (fun e => q ((nI_eq hx hy).mpr e))) (fun q => h2 ((nI_eq hx hy).mp (Classical.byContradiction q)))
theorem vm_r_if_ne {x : Int32} {o : Int} (h : vm_lk k pc = some (q, (.ifCond .ne o), n, a, b, kI, kL)) (h1 : ¬ x = 0 → vm_W E C k Q (a, L, st, c, d, μ)) (h2 : ¬ (¬ x = 0) → vm_W E C k Q (n, L, st, c, d, μ)) : vm_W E C k Q (pc, L, .int x :: st, c, d, μ) := by
  by_cases hc : vm_cond .ne x 0
  · exact vm_r_br h (Or.inr (Or.inl ⟨.ne, o, x, rfl, rfl, fun q => rfl, fun q => absurd hc q⟩)) (h1 hc)
  · exact vm_r_br h (Or.inr (Or.inl ⟨.ne, o, x, rfl, rfl, fun q => absurd q hc, fun q => rfl⟩)) (h2 hc)
theorem vm_r_if_neN {x : Nat} {o : Int} (h : vm_lk k pc = some (q, (.ifCond .ne o), n, a, b, kI, kL)) (hx : x < 2 ^ 31) (h1 : 0 < x → vm_W E C k Q (a, L, st, c, d, μ)) (h2 : x = 0 → vm_W E C k Q (n, L, st, c, d, μ)) : vm_W E C k Q (pc, L, .int (nI x) :: st, c, d, μ) := by
  rcases Nat.eq_zero_or_pos x with e | e
  · subst e
    exact vm_r_if_ne h (fun q => absurd rfl q) (fun _ => h2 rfl)
  · exact vm_r_if_ne h (fun _ => h1 e) (fun q => absurd (nI_ne0 e hx) q)
theorem vm_r_if_neB {P : Prop} [Decidable P] {o : Int} (h : vm_lk k pc = some (q, (.ifCond .ne o), n, a, b, kI, kL)) (h1 : P → vm_W E C k Q (a, L, st, c, d, μ)) (h2 : ¬ P → vm_W E C k Q (n, L, st, c, d, μ)) : vm_W E C k Q (pc, L, .int (vm_bi P) :: st, c, d, μ) := by
  by_cases e : P
  · rw [vm_bi_t e]
    exact vm_r_if_ne h (fun _ => h1 e) (fun q => absurd (by decide) q)
  · rw [vm_bi_f e]
    exact vm_r_if_ne h (fun q => absurd rfl q) (fun _ => h2 e)
theorem vm_r_icmp_lt {x y : Int32} {o : Int} (h : vm_lk k pc = some (q, (.if_icmp .lt o), n, a, b, kI, kL)) (h1 : x < y → vm_W E C k Q (a, L, st, c, d, μ)) (h2 : ¬ (x < y) → vm_W E C k Q (n, L, st, c, d, μ)) : vm_W E C k Q (pc, L, .int y :: .int x :: st, c, d, μ) := by
  by_cases hc : vm_cond .lt x y
  · exact vm_r_br h (Or.inr (Or.inr (Or.inl ⟨.lt, o, x, y, rfl, rfl, fun q => rfl, fun q => absurd hc q⟩))) (h1 hc)
  · exact vm_r_br h (Or.inr (Or.inr (Or.inl ⟨.lt, o, x, y, rfl, rfl, fun q => absurd q hc, fun q => rfl⟩))) (h2 hc)
theorem vm_r_icmp_ltN {x y : Nat} {o : Int} (h : vm_lk k pc = some (q, (.if_icmp .lt o), n, a, b, kI, kL)) (hx : x < 2 ^ 31) (hy : y < 2 ^ 31) (h1 : x < y → vm_W E C k Q (a, L, st, c, d, μ)) (h2 : y ≤ x → vm_W E C k Q (n, L, st, c, d, μ)) : vm_W E C k Q (pc, L, .int (nI y) :: .int (nI x) :: st, c, d, μ) := vm_r_icmp_lt h (fun q => h1 ((nI_ltI hx hy).mp q)) (fun q => h2 (Nat.le_of_not_lt fun e => q ((nI_ltI hx hy).mpr e)))
theorem vm_r_if_lt {x : Int32} {o : Int} (h : vm_lk k pc = some (q, (.ifCond .lt o), n, a, b, kI, kL)) (h1 : x < 0 → vm_W E C k Q (a, L, st, c, d, μ)) (h2 : ¬ (x < 0) → vm_W E C k Q (n, L, st, c, d, μ)) : vm_W E C k Q (pc, L, .int x :: st, c, d, μ) := by
  by_cases hc : vm_cond .lt x 0
  · exact vm_r_br h (Or.inr (Or.inl ⟨.lt, o, x, rfl, rfl, fun q => rfl, fun q => absurd hc q⟩)) (h1 hc)
  · exact vm_r_br h (Or.inr (Or.inl ⟨.lt, o, x, rfl, rfl, fun q => absurd q hc, fun q => rfl⟩)) (h2 hc)
theorem vm_r_if_ltN {x : Nat} {o : Int} (h : vm_lk k pc = some (q, (.ifCond .lt o), n, a, b, kI, kL)) (hx : x < 2 ^ 31) (kk : vm_W E C k Q (n, L, st, c, d, μ)) : vm_W E C k Q (pc, L, .int (nI x) :: st, c, d, μ) := vm_r_if_lt h (fun q => absurd q (nI_pos hx)) (fun _ => kk)
theorem vm_r_icmp_ge {x y : Int32} {o : Int} (h : vm_lk k pc = some (q, (.if_icmp .ge o), n, a, b, kI, kL)) (h1 : y ≤ x → vm_W E C k Q (a, L, st, c, d, μ)) (h2 : ¬ (y ≤ x) → vm_W E C k Q (n, L, st, c, d, μ)) : vm_W E C k Q (pc, L, .int y :: .int x :: st, c, d, μ) := by
  by_cases hc : vm_cond .ge x y
  · exact vm_r_br h (Or.inr (Or.inr (Or.inl ⟨.ge, o, x, y, rfl, rfl, fun q => rfl, fun q => absurd hc q⟩))) (h1 hc)
  · exact vm_r_br h (Or.inr (Or.inr (Or.inl ⟨.ge, o, x, y, rfl, rfl, fun q => absurd q hc, fun q => rfl⟩))) (h2 hc)
theorem vm_r_icmp_geN {x y : Nat} {o : Int} (h : vm_lk k pc = some (q, (.if_icmp .ge o), n, a, b, kI, kL)) (hx : x < 2 ^ 31) (hy : y < 2 ^ 31) (h1 : y ≤ x → vm_W E C k Q (a, L, st, c, d, μ)) (h2 : x < y → vm_W E C k Q (n, L, st, c, d, μ)) : vm_W E C k Q (pc, L, .int (nI y) :: .int (nI x) :: st, c, d, μ) := vm_r_icmp_ge h (fun q => h1 ((nI_leI hy hx).mp q)) (fun q => h2 (Nat.lt_of_not_le fun e => q ((nI_leI hy hx).mpr e)))
theorem vm_r_if_ge {x : Int32} {o : Int} (h : vm_lk k pc = some (q, (.ifCond .ge o), n, a, b, kI, kL)) (h1 : 0 ≤ x → vm_W E C k Q (a, L, st, c, d, μ)) (h2 : ¬ (0 ≤ x) → vm_W E C k Q (n, L, st, c, d, μ)) : vm_W E C k Q (pc, L, .int x :: st, c, d, μ) := by
  by_cases hc : vm_cond .ge x 0
  · exact vm_r_br h (Or.inr (Or.inl ⟨.ge, o, x, rfl, rfl, fun q => rfl, fun q => absurd hc q⟩)) (h1 hc)
  · exact vm_r_br h (Or.inr (Or.inl ⟨.ge, o, x, rfl, rfl, fun q => absurd q hc, fun q => rfl⟩)) (h2 hc)
theorem vm_r_if_geN {x : Nat} {o : Int} (h : vm_lk k pc = some (q, (.ifCond .ge o), n, a, b, kI, kL)) (hx : x < 2 ^ 31) (kk : vm_W E C k Q (a, L, st, c, d, μ)) : vm_W E C k Q (pc, L, .int (nI x) :: st, c, d, μ) := vm_r_if_ge h (fun _ => kk) (fun q => absurd (nI_pos' hx) q)
theorem vm_r_icmp_gt {x y : Int32} {o : Int} (h : vm_lk k pc = some (q, (.if_icmp .gt o), n, a, b, kI, kL)) (h1 : y < x → vm_W E C k Q (a, L, st, c, d, μ)) (h2 : ¬ (y < x) → vm_W E C k Q (n, L, st, c, d, μ)) : vm_W E C k Q (pc, L, .int y :: .int x :: st, c, d, μ) := by
  by_cases hc : vm_cond .gt x y
  · exact vm_r_br h (Or.inr (Or.inr (Or.inl ⟨.gt, o, x, y, rfl, rfl, fun q => rfl, fun q => absurd hc q⟩))) (h1 hc)
  · exact vm_r_br h (Or.inr (Or.inr (Or.inl ⟨.gt, o, x, y, rfl, rfl, fun q => absurd q hc, fun q => rfl⟩))) (h2 hc)
theorem vm_r_icmp_gtN {x y : Nat} {o : Int} (h : vm_lk k pc = some (q, (.if_icmp .gt o), n, a, b, kI, kL)) (hx : x < 2 ^ 31) (hy : y < 2 ^ 31) (h1 : y < x → vm_W E C k Q (a, L, st, c, d, μ)) (h2 : x ≤ y → vm_W E C k Q (n, L, st, c, d, μ)) : vm_W E C k Q (pc, L, .int (nI y) :: .int (nI x) :: st, c, d, μ) := vm_r_icmp_gt h (fun q => h1 ((nI_ltI hy hx).mp q)) (fun q => h2 (Nat.le_of_not_lt fun e => q ((nI_ltI hy hx).mpr e)))
theorem vm_r_if_gt {x : Int32} {o : Int} (h : vm_lk k pc = some (q, (.ifCond .gt o), n, a, b, kI, kL)) (h1 : 0 < x → vm_W E C k Q (a, L, st, c, d, μ)) (h2 : ¬ (0 < x) → vm_W E C k Q (n, L, st, c, d, μ)) : vm_W E C k Q (pc, L, .int x :: st, c, d, μ) := by
  by_cases hc : vm_cond .gt x 0
  · exact vm_r_br h (Or.inr (Or.inl ⟨.gt, o, x, rfl, rfl, fun q => rfl, fun q => absurd hc q⟩)) (h1 hc)
  · exact vm_r_br h (Or.inr (Or.inl ⟨.gt, o, x, rfl, rfl, fun q => absurd q hc, fun q => rfl⟩)) (h2 hc)
theorem vm_r_if_gtN {x : Nat} {o : Int} (h : vm_lk k pc = some (q, (.ifCond .gt o), n, a, b, kI, kL)) (hx : x < 2 ^ 31) (h1 : 0 < x → vm_W E C k Q (a, L, st, c, d, μ)) (h2 : x = 0 → vm_W E C k Q (n, L, st, c, d, μ)) : vm_W E C k Q (pc, L, .int (nI x) :: st, c, d, μ) := by
  rcases Nat.eq_zero_or_pos x with e | e
  · subst e
    exact vm_r_if_gt h (fun q => absurd q (by decide)) (fun _ => h2 rfl)
  · exact vm_r_if_gt h (fun _ => h1 e) (fun q => absurd (Int32.not_le.mp (nI_nle e hx)) q)
theorem vm_r_icmp_le {x y : Int32} {o : Int} (h : vm_lk k pc = some (q, (.if_icmp .le o), n, a, b, kI, kL)) (h1 : x ≤ y → vm_W E C k Q (a, L, st, c, d, μ)) (h2 : ¬ (x ≤ y) → vm_W E C k Q (n, L, st, c, d, μ)) : vm_W E C k Q (pc, L, .int y :: .int x :: st, c, d, μ) := by
  by_cases hc : vm_cond .le x y
  · exact vm_r_br h (Or.inr (Or.inr (Or.inl ⟨.le, o, x, y, rfl, rfl, fun q => rfl, fun q => absurd hc q⟩))) (h1 hc)
  · exact vm_r_br h (Or.inr (Or.inr (Or.inl ⟨.le, o, x, y, rfl, rfl, fun q => absurd q hc, fun q => rfl⟩))) (h2 hc)
theorem vm_r_icmp_leN {x y : Nat} {o : Int} (h : vm_lk k pc = some (q, (.if_icmp .le o), n, a, b, kI, kL)) (hx : x < 2 ^ 31) (hy : y < 2 ^ 31) (h1 : x ≤ y → vm_W E C k Q (a, L, st, c, d, μ)) (h2 : y < x → vm_W E C k Q (n, L, st, c, d, μ)) : vm_W E C k Q (pc, L, .int (nI y) :: .int (nI x) :: st, c, d, μ) := vm_r_icmp_le h (fun q => h1 ((nI_leI hx hy).mp q)) (fun q => h2 (Nat.lt_of_not_le fun e => q ((nI_leI hx hy).mpr e)))
theorem vm_r_if_le {x : Int32} {o : Int} (h : vm_lk k pc = some (q, (.ifCond .le o), n, a, b, kI, kL)) (h1 : x ≤ 0 → vm_W E C k Q (a, L, st, c, d, μ)) (h2 : ¬ (x ≤ 0) → vm_W E C k Q (n, L, st, c, d, μ)) : vm_W E C k Q (pc, L, .int x :: st, c, d, μ) := by
  by_cases hc : vm_cond .le x 0
  · exact vm_r_br h (Or.inr (Or.inl ⟨.le, o, x, rfl, rfl, fun q => rfl, fun q => absurd hc q⟩)) (h1 hc)
  · exact vm_r_br h (Or.inr (Or.inl ⟨.le, o, x, rfl, rfl, fun q => absurd q hc, fun q => rfl⟩)) (h2 hc)
theorem vm_r_if_leN {x : Nat} {o : Int} (h : vm_lk k pc = some (q, (.ifCond .le o), n, a, b, kI, kL)) (hx : x < 2 ^ 31) (h1 : x = 0 → vm_W E C k Q (a, L, st, c, d, μ)) (h2 : 0 < x → vm_W E C k Q (n, L, st, c, d, μ)) : vm_W E C k Q (pc, L, .int (nI x) :: st, c, d, μ) := by
  rcases Nat.eq_zero_or_pos x with e | e
  · subst e
    exact vm_r_if_le h (fun _ => h1 rfl) (fun q => absurd (by decide) q)
  · exact vm_r_if_le h (fun q => absurd q (nI_nle e hx)) (fun _ => h2 e)
theorem vm_r_ifnonnull {o : Int} {x : Nat} (h : vm_lk k pc = some (q, (.ifnonnull o), n, a, b, kI, kL)) (kk : vm_W E C k Q (a, L, st, c, d, μ)) : vm_W E C k Q (pc, L, .ref x :: st, c, d, μ) := vm_r_br h (Or.inr (Or.inr (Or.inr (Or.inl ⟨o, x, rfl, rfl, rfl⟩)))) kk
theorem vm_r_ifnull {o : Int} {x : Nat} (h : vm_lk k pc = some (q, (.ifnull o), n, a, b, kI, kL)) (kk : vm_W E C k Q (n, L, st, c, d, μ)) : vm_W E C k Q (pc, L, .ref x :: st, c, d, μ) := vm_r_br h (Or.inr (Or.inr (Or.inr (Or.inr (Or.inl ⟨o, x, rfl, rfl, rfl⟩))))) kk
theorem vm_r_getI {x o : Nat} {v : Int32} (h : vm_lk k pc = some (q, (.getfield x), n, a, b, kI, kL)) (hg : vm_gI μ o a b v) (kk : vm_W E C k Q (n, L, .int v :: st, c, d, μ)) : vm_W E C k Q (pc, L, .ref o :: st, c, d, μ) := by
  obtain ⟨fl, h1, h2, rfl⟩ := hg
  exact vm_r_read h (Or.inl ⟨x, o, st, fl, rfl, rfl, h1, Or.inl ⟨h2, rfl⟩⟩) kk
theorem vm_r_getR {x o q' : Nat} (h : vm_lk k pc = some (q, (.getfield x), n, a, b, kI, kL)) (hg : vm_gR μ o a b q') (kk : vm_W E C k Q (n, L, .ref q' :: st, c, d, μ)) : vm_W E C k Q (pc, L, .ref o :: st, c, d, μ) := by
  obtain ⟨fl, h1, h2⟩ := hg
  exact vm_r_read h (Or.inl ⟨x, o, st, fl, rfl, rfl, h1, Or.inr ⟨q', h2, rfl⟩⟩) kk
theorem vm_r_iaload {j o N : Nat} {v : Int32} (h : vm_lk k pc = some (q, .iaload, n, a, b, kI, kL)) (hs : μ.1 o = some (.inr (0, N))) (hj : j < N) (hN : N < 2 ^ 31) (hv : μ.2.1 o j = v) (kk : vm_W E C k Q (n, L, .int v :: st, c, d, μ)) : vm_W E C k Q (pc, L, .int (nI j) :: .ref o :: st, c, d, μ) := by
  subst hv
  refine vm_r_read h (Or.inr (Or.inl ⟨nI j, o, N, st, rfl, vp_in_nI hj hN, ?_⟩)) kk
  exact Or.inl ⟨rfl, hs, by rw [nI_clamp (by omega)]⟩
theorem vm_r_caload {j o N : Nat} {v : Int32} (h : vm_lk k pc = some (q, .caload, n, a, b, kI, kL)) (hs : μ.1 o = some (.inr (1, N))) (hj : j < N) (hN : N < 2 ^ 31) (hv : μ.2.1 o j = v) (kk : vm_W E C k Q (n, L, .int v :: st, c, d, μ)) : vm_W E C k Q (pc, L, .int (nI j) :: .ref o :: st, c, d, μ) := by
  subst hv
  refine vm_r_read h (Or.inr (Or.inl ⟨nI j, o, N, st, rfl, vp_in_nI hj hN, ?_⟩)) kk
  exact Or.inr (Or.inl ⟨rfl, hs, by rw [nI_clamp (by omega)]⟩)
theorem vm_r_baload {j o N : Nat} {v : Int32} (h : vm_lk k pc = some (q, .baload, n, a, b, kI, kL)) (hs : μ.1 o = some (.inr (2, N))) (hj : j < N) (hN : N < 2 ^ 31) (hv : μ.2.1 o j = v) (kk : vm_W E C k Q (n, L, .int v :: st, c, d, μ)) : vm_W E C k Q (pc, L, .int (nI j) :: .ref o :: st, c, d, μ) := by
  subst hv
  refine vm_r_read h (Or.inr (Or.inl ⟨nI j, o, N, st, rfl, vp_in_nI hj hN, ?_⟩)) kk
  exact Or.inr (Or.inr (Or.inl ⟨rfl, hs, by rw [nI_clamp (by omega)]⟩))
theorem vm_r_laload {j o N : Nat} {v : Int64} (h : vm_lk k pc = some (q, .laload, n, a, b, kI, kL)) (hs : μ.1 o = some (.inr (3, N))) (hj : j < N) (hN : N < 2 ^ 31) (hv : μ.2.2.2.1 o j = v) (kk : vm_W E C k Q (n, L, .long v :: st, c, d, μ)) : vm_W E C k Q (pc, L, .int (nI j) :: .ref o :: st, c, d, μ) := by
  subst hv
  refine vm_r_read h (Or.inr (Or.inl ⟨nI j, o, N, st, rfl, vp_in_nI hj hN, ?_⟩)) kk
  exact Or.inr (Or.inr (Or.inr (Or.inl ⟨rfl, hs, by rw [nI_clamp (by omega)]⟩)))
theorem vm_r_aaload {j o N v : Nat} (h : vm_lk k pc = some (q, .aaload, n, a, b, kI, kL)) (hs : μ.1 o = some (.inr (4, N)) ∨ μ.1 o = some (.inr (5, N))) (hj : j < N) (hN : N < 2 ^ 31) (hv : μ.2.2.1 o j = some v) (kk : vm_W E C k Q (n, L, .ref v :: st, c, d, μ)) : vm_W E C k Q (pc, L, .int (nI j) :: .ref o :: st, c, d, μ) := by
  refine vm_r_read h (Or.inr (Or.inl ⟨nI j, o, N, st, rfl, vp_in_nI hj hN, ?_⟩)) kk
  exact Or.inr (Or.inr (Or.inr (Or.inr (Or.inl ⟨rfl, hs, by rw [nI_clamp (by omega), hv]; rfl⟩))))
theorem vm_r_saload {j : Nat} (h : vm_lk k pc = some (q, .iaload, n, a, b, kI, kL)) (hj : j < E.2.2.1) (hN : E.2.2.1 < 2 ^ 31) (kk : vm_W E C k Q (n, L, .int (E.2.2.2 j) :: st, c, d, μ)) : vm_W E C k Q (pc, L, .int (nI j) :: .ref E.2.1 :: st, c, d, μ) := by
  refine vm_r_read h (Or.inr (Or.inl ⟨nI j, E.2.1, E.2.2.1, st, rfl, vp_in_nI hj hN, ?_⟩)) kk
  exact Or.inr (Or.inr (Or.inr (Or.inr (Or.inr (⟨rfl, rfl, rfl, by rw [nI_clamp (by omega)]⟩)))))
theorem vm_r_alen {o t N : Nat} (h : vm_lk k pc = some (q, .arraylength, n, a, b, kI, kL)) (hs : μ.1 o = some (.inr (t, N))) (ht : t < 6) (kk : vm_W E C k Q (n, L, .int (nI N) :: st, c, d, μ)) : vm_W E C k Q (pc, L, .ref o :: st, c, d, μ) := vm_r_read h (Or.inr (Or.inr (Or.inl ⟨o, t, N, st, rfl, rfl, Or.inl ⟨hs, ht⟩, rfl⟩))) kk
theorem vm_r_slen  (h : vm_lk k pc = some (q, .arraylength, n, a, b, kI, kL)) (kk : vm_W E C k Q (n, L, .int (nI E.2.2.1) :: st, c, d, μ)) : vm_W E C k Q (pc, L, .ref E.2.1 :: st, c, d, μ) := vm_r_read h (Or.inr (Or.inr (Or.inl ⟨E.2.1, 0, E.2.2.1, st, rfl, rfl, Or.inr ⟨rfl, rfl⟩, rfl⟩))) kk
theorem vm_r_abs {x : Nat} {v : Int32} (h : vm_lk k pc = some (q, (.invokestatic x), n, 900, b, kI, kL)) (hs : (st.map fun v => v.category).sum ≤ 8) (kk : vm_W E C k Q (n, L, .int (if 0 ≤ v then v else 0 - v) :: st, c, d, μ)) : vm_W E C k Q (pc, L, .int v :: st, c, d, μ) := vm_r_read h (Or.inr (Or.inr (Or.inr (Or.inl ⟨x, v, st, rfl, rfl, rfl, hs, rfl⟩)))) kk
theorem vm_r_max {x : Nat} {v w : Int32} (h : vm_lk k pc = some (q, (.invokestatic x), n, 901, b, kI, kL)) (hs : (st.map fun v => v.category).sum ≤ 8) (kk : vm_W E C k Q (n, L, .int (if v < w then w else v) :: st, c, d, μ)) : vm_W E C k Q (pc, L, .int w :: .int v :: st, c, d, μ) := vm_r_read h (Or.inr (Or.inr (Or.inr (Or.inr (Or.inl ⟨x, v, w, st, rfl, rfl, rfl, hs, rfl⟩))))) kk
theorem vm_r_oinit {x o : Nat} (h : vm_lk k pc = some (q, (.invokespecial x), n, 903, b, kI, kL)) (hs : (st.map fun v => v.category).sum ≤ 8) (kk : vm_W E C k Q (n, L, st, c, d, μ)) : vm_W E C k Q (pc, L, .ref o :: st, c, d, μ) := vm_r_read h (Or.inr (Or.inr (Or.inr (Or.inr (Or.inr (Or.inl ⟨x, o, st, rfl, rfl, rfl, hs, rfl⟩)))))) kk
theorem vm_r_ldcs {x : Nat} (h : vm_lk k pc = some (q, (.ldc x), n, 906, b, kI, kL)) (kk : vm_W E C k Q (n, L, .ref E.1 :: st, c, d, μ)) : vm_W E C k Q (pc, L, st, c, d, μ) := vm_r_read h (Or.inr (Or.inr (Or.inr (Or.inr (Or.inr (Or.inr (Or.inl ⟨x, rfl, rfl, rfl⟩))))))) kk
theorem vm_r_strlen {x : Nat} (h : vm_lk k pc = some (q, (.invokevirtual x), n, 904, b, kI, kL)) (hs : (st.map fun v => v.category).sum ≤ 8) (kk : vm_W E C k Q (n, L, .int (nI 72) :: st, c, d, μ)) : vm_W E C k Q (pc, L, .ref E.1 :: st, c, d, μ) := vm_r_read h (Or.inr (Or.inr (Or.inr (Or.inr (Or.inr (Or.inr (Or.inr (Or.inl ⟨x, st, rfl, rfl, rfl, hs, rfl⟩)))))))) kk
theorem vm_r_strat {x j : Nat} (h : vm_lk k pc = some (q, (.invokevirtual x), n, 905, b, kI, kL)) (hs : (st.map fun v => v.category).sum ≤ 8) (hj : j < 72) (kk : vm_W E C k Q (n, L, .int (vm_txt.getD j 0) :: st, c, d, μ)) : vm_W E C k Q (pc, L, .int (nI j) :: .ref E.1 :: st, c, d, μ) := vm_r_read h (Or.inr (Or.inr (Or.inr (Or.inr (Or.inr (Or.inr (Or.inr (Or.inr ⟨x, j, st, rfl, rfl, rfl, hj, hs, rfl⟩)))))))) kk
theorem vm_r_putI {x o : Nat} {v : Int32} (h : vm_lk k pc = some (q, (.putfield x), n, a, b, kI, kL)) (hg : vm_gW μ o a b) (kk : vm_W E C k Q (n, L, st, c, d, vm_mI μ o b v)) : vm_W E C k Q (pc, L, .int v :: .ref o :: st, c, d, μ) := by
  obtain ⟨fl, h1, h2⟩ := hg
  exact vm_r_write h (Or.inl ⟨x, o, v, fl, rfl, rfl, h1, h2, rfl⟩) kk
theorem vm_r_putR {x o r : Nat} {w : Option Nat} {fl : List (Option (Option Nat))} (h : vm_lk k pc = some (q, (.putfield x), n, a, b, kI, kL)) (h1 : μ.1 o = some (.inl (a, fl))) (h2 : fl[b]? = some (some w)) (kk : vm_W E C k Q (n, L, st, c, d, vm_mS μ o (.inl (a, fl.set b (some (some r)))))) : vm_W E C k Q (pc, L, .ref r :: .ref o :: st, c, d, μ) := vm_r_write h (Or.inr (Or.inl ⟨x, o, r, w, fl, rfl, rfl, h1, h2, rfl⟩)) kk
theorem vm_r_iastore {j o N : Nat} {v : Int32} (h : vm_lk k pc = some (q, .iastore, n, a, b, kI, kL)) (hs : μ.1 o = some (.inr (0, N))) (hj : j < N) (hN : N < 2 ^ 31) (kk : vm_W E C k Q (n, L, st, c, d, vm_mI μ o j v)) : vm_W E C k Q (pc, L, .int v :: .int (nI j) :: .ref o :: st, c, d, μ) := vm_r_write h (Or.inr (Or.inr (Or.inl ⟨nI j, v, o, N, rfl, vp_in_nI hj hN, Or.inl ⟨rfl, hs⟩, by rw [nI_clamp (by omega)]⟩))) kk
theorem vm_r_castore {j o N : Nat} {v : Int32} (h : vm_lk k pc = some (q, .castore, n, a, b, kI, kL)) (hs : μ.1 o = some (.inr (1, N))) (hj : j < N) (hN : N < 2 ^ 31) (hn : vp_nar .char v = v) (kk : vm_W E C k Q (n, L, st, c, d, vm_mI μ o j v)) : vm_W E C k Q (pc, L, .int v :: .int (nI j) :: .ref o :: st, c, d, μ) := vm_r_write h (Or.inr (Or.inr (Or.inl ⟨nI j, v, o, N, rfl, vp_in_nI hj hN, Or.inr (Or.inl ⟨rfl, hs, hn⟩), by rw [nI_clamp (by omega)]⟩))) kk
theorem vm_r_bastore {j o N : Nat} {v : Int32} (h : vm_lk k pc = some (q, .bastore, n, a, b, kI, kL)) (hs : μ.1 o = some (.inr (2, N))) (hj : j < N) (hN : N < 2 ^ 31) (hn : vp_nar .boolean v = v) (kk : vm_W E C k Q (n, L, st, c, d, vm_mI μ o j v)) : vm_W E C k Q (pc, L, .int v :: .int (nI j) :: .ref o :: st, c, d, μ) := vm_r_write h (Or.inr (Or.inr (Or.inl ⟨nI j, v, o, N, rfl, vp_in_nI hj hN, Or.inr (Or.inr (⟨rfl, hs, hn⟩)), by rw [nI_clamp (by omega)]⟩))) kk
theorem vm_r_lastore {j o N : Nat} {v : Int64} (h : vm_lk k pc = some (q, .lastore, n, a, b, kI, kL)) (hs : μ.1 o = some (.inr (3, N))) (hj : j < N) (hN : N < 2 ^ 31) (kk : vm_W E C k Q (n, L, st, c, d, vm_mJ μ o j v)) : vm_W E C k Q (pc, L, .long v :: .int (nI j) :: .ref o :: st, c, d, μ) := vm_r_write h (Or.inr (Or.inr (Or.inr (Or.inl ⟨nI j, v, o, N, rfl, vp_in_nI hj hN, rfl, hs, by rw [nI_clamp (by omega)]⟩)))) kk
theorem vm_r_aastore {j o N r : Nat} (h : vm_lk k pc = some (q, .aastore, n, a, b, kI, kL)) (hs : μ.1 o = some (.inr (4, N))) (hj : j < N) (hN : N < 2 ^ 31) (hr : vm_ob μ r 4) (kk : vm_W E C k Q (n, L, st, c, d, vm_mR μ o j (some r))) : vm_W E C k Q (pc, L, .ref r :: .int (nI j) :: .ref o :: st, c, d, μ) := by
  obtain ⟨fl, hr⟩ := hr
  exact vm_r_write h (Or.inr (Or.inr (Or.inr (Or.inr (Or.inl ⟨nI j, o, N, r, fl, rfl, vp_in_nI hj hN, rfl, hs, hr, by rw [nI_clamp (by omega)]⟩))))) kk
theorem vm_r_acopy {x o r j n1 n2 : Nat} (h : vm_lk k pc = some (q, (.invokestatic x), n, 902, b, kI, kL)) (hs : (st.map fun v => v.category).sum ≤ 8) (hj : j < 2 ^ 31) (h1 : j ≤ n1) (h2 : j ≤ n2) (hso : μ.1 o = some (.inr (0, n1))) (hsr : μ.1 r = some (.inr (0, n2))) (kk : vm_W E C k Q (n, L, st, c, d, vm_cp μ o r j)) : vm_W E C k Q (pc, L, .int (nI j) :: .int (nI 0) :: .ref r :: .int (nI 0) :: .ref o :: st, c, d, μ) := vm_r_write h (Or.inr (Or.inr (Or.inr (Or.inr (Or.inr ⟨x, o, r, j, n1, n2, rfl, rfl, rfl, hs, hj, h1, h2, hso, hsr, rfl⟩))))) kk
theorem vm_r_new {x : Nat} (h : vm_lk k pc = some (q, (.new x), n, a, b, kI, kL)) (kk : vm_W E C k Q (n, L, .ref μ.2.2.2.2 :: st, c, d, vm_nw μ (.inl (a, vm_fl a)))) : vm_W E C k Q (pc, L, st, c + 1, d + b, μ) := vm_r_alloc h (Or.inl ⟨x, rfl, rfl, rfl, rfl, rfl⟩) kk
theorem vm_r_newarray {t : ArrayType} {j : Nat} (h : vm_lk k pc = some (q, (.newarray t), n, a, b, kI, kL)) (ha : a < 4) (hj : j ≤ 65536) (kk : vm_W E C k Q (n, L, .ref μ.2.2.2.2 :: st, c, d, vm_nw μ (.inr (a, j)))) : vm_W E C k Q (pc, L, .int (nI j) :: st, c + 1, d + j, μ) := vm_r_alloc h (Or.inr (Or.inl ⟨t, j, st, rfl, ha, rfl, rfl, hj, rfl, rfl, rfl⟩)) kk
theorem vm_r_anewarray {x j : Nat} (h : vm_lk k pc = some (q, (.anewarray x), n, 4, b, kI, kL)) (hj : j ≤ 65536) (kk : vm_W E C k Q (n, L, .ref μ.2.2.2.2 :: st, c, d, vm_nw μ (.inr (4, j)))) : vm_W E C k Q (pc, L, .int (nI j) :: st, c + 1, d + j, μ) := vm_r_alloc h (Or.inr (Or.inr (Or.inl ⟨x, j, st, rfl, rfl, rfl, rfl, hj, rfl, rfl, rfl⟩))) kk
theorem vm_r_multi {x N K : Nat} (h : vm_lk k pc = some (q, (.multianewarray x 2), n, 5, b, kI, kL)) (hN : N ≤ 65536) (hK : K ≤ 65536) (kk : vm_W E C k Q (n, L, .ref μ.2.2.2.2 :: st, c, d, vm_nw2 μ N K)) : vm_W E C k Q (pc, L, .int (nI K) :: .int (nI N) :: st, c + 1 + N, d + (N + N * K), μ) := vm_r_alloc h (Or.inr (Or.inr (Or.inr ⟨x, N, K, st, rfl, rfl, rfl, rfl, hN, hK, rfl, rfl, rfl⟩))) kk
theorem vm_r_call {as : List Value} {Q' : Option Value → vm_M → Prop} {mc ms : Nat} (h : vm_lk k pc = some (q, i, n, a, b, kI, kL)) (ha : a < 900) (hl : as.length = b) (hs : (st.map fun v => v.category).sum ≤ 8)
    (hk : (∃ (x o : Nat) (as' : List Value) (fl : List (Option (Option Nat))), i = .invokevirtual x ∧ as = .ref o :: as' ∧ μ.1 o = some (.inl (vm_mc a, fl))) ∨ (∃ x, i = .invokestatic x) ∨ (∃ (x o : Nat) (as' : List Value), i = .invokespecial x ∧ as = .ref o :: as'))
    (hM : C a as mc ms μ Q') (kk : ∀ v μ', Q' v μ' → vm_W E C k Q (n, L, v.toList ++ st, c, d, μ')) : vm_W E C k Q (pc, L, as.reverse ++ st, c + mc, d + ms, μ) :=
  vm_fold ⟨q, i, n, a, b, kI, kL, h, Or.inr (Or.inl ⟨pc, L, st, c, d, mc, ms, μ, as, Q', rfl, ha, hl, hs, hk, hM, kk⟩)⟩
theorem vm_r_cs0I {x : Nat} {z : Int32} (h : vm_lk k pc = some (q, (.invokestatic x), n, a, 0, kI, kL)) (ha : a < 900)  (hs : (st.map fun v => v.category).sum ≤ 8) (hM : C a [] 0 0 μ (vm_PI z μ)) (kk : vm_W E C k Q (n, L, .int z :: st, c, d, μ)) : vm_W E C k Q (pc, L, st, c, d, μ) := by
  exact vm_r_call (as := []) (mc := 0) (ms := 0) h ha rfl hs (Or.inr (Or.inl ⟨x, rfl⟩)) hM (fun v μ' hq => by
    obtain ⟨rfl, rfl⟩ := hq
    exact kk)
theorem vm_r_cs0X {x : Nat} {P : Int32 → vm_M → Prop} (h : vm_lk k pc = some (q, (.invokestatic x), n, a, 0, kI, kL)) (ha : a < 900)  (hs : (st.map fun v => v.category).sum ≤ 8) (hM : C a [] 0 0 μ (vm_PX P)) (kk : ∀ z μ', P z μ' → vm_W E C k Q (n, L, .int z :: st, c, d, μ')) : vm_W E C k Q (pc, L, st, c, d, μ) := by
  exact vm_r_call (as := []) (mc := 0) (ms := 0) h ha rfl hs (Or.inr (Or.inl ⟨x, rfl⟩)) hM (fun v μ' hq => by
    obtain ⟨z, rfl, hq⟩ := hq
    exact kk z μ' hq)
theorem vm_r_cs0V {x : Nat} {P : vm_M → Prop} (h : vm_lk k pc = some (q, (.invokestatic x), n, a, 0, kI, kL)) (ha : a < 900)  (hs : (st.map fun v => v.category).sum ≤ 8) (hM : C a [] 0 0 μ (vm_PV P)) (kk : ∀ μ', P μ' → vm_W E C k Q (n, L, st, c, d, μ')) : vm_W E C k Q (pc, L, st, c, d, μ) := by
  exact vm_r_call (as := []) (mc := 0) (ms := 0) h ha rfl hs (Or.inr (Or.inl ⟨x, rfl⟩)) hM (fun v μ' hq => by
    obtain ⟨rfl, hq⟩ := hq
    exact kk μ' hq)
theorem vm_r_cs1I {x : Nat} {v0 : Value} {z : Int32} (h : vm_lk k pc = some (q, (.invokestatic x), n, a, 1, kI, kL)) (ha : a < 900)  (hs : (st.map fun v => v.category).sum ≤ 8) (hM : C a [v0] 0 0 μ (vm_PI z μ)) (kk : vm_W E C k Q (n, L, .int z :: st, c, d, μ)) : vm_W E C k Q (pc, L, v0 :: st, c, d, μ) := by
  exact vm_r_call (as := [v0]) (mc := 0) (ms := 0) h ha rfl hs (Or.inr (Or.inl ⟨x, rfl⟩)) hM (fun v μ' hq => by
    obtain ⟨rfl, rfl⟩ := hq
    exact kk)
theorem vm_r_cs1X {x : Nat} {v0 : Value} {P : Int32 → vm_M → Prop} (h : vm_lk k pc = some (q, (.invokestatic x), n, a, 1, kI, kL)) (ha : a < 900)  (hs : (st.map fun v => v.category).sum ≤ 8) (hM : C a [v0] 0 0 μ (vm_PX P)) (kk : ∀ z μ', P z μ' → vm_W E C k Q (n, L, .int z :: st, c, d, μ')) : vm_W E C k Q (pc, L, v0 :: st, c, d, μ) := by
  exact vm_r_call (as := [v0]) (mc := 0) (ms := 0) h ha rfl hs (Or.inr (Or.inl ⟨x, rfl⟩)) hM (fun v μ' hq => by
    obtain ⟨z, rfl, hq⟩ := hq
    exact kk z μ' hq)
theorem vm_r_cs1V {x : Nat} {v0 : Value} {P : vm_M → Prop} (h : vm_lk k pc = some (q, (.invokestatic x), n, a, 1, kI, kL)) (ha : a < 900)  (hs : (st.map fun v => v.category).sum ≤ 8) (hM : C a [v0] 0 0 μ (vm_PV P)) (kk : ∀ μ', P μ' → vm_W E C k Q (n, L, st, c, d, μ')) : vm_W E C k Q (pc, L, v0 :: st, c, d, μ) := by
  exact vm_r_call (as := [v0]) (mc := 0) (ms := 0) h ha rfl hs (Or.inr (Or.inl ⟨x, rfl⟩)) hM (fun v μ' hq => by
    obtain ⟨rfl, hq⟩ := hq
    exact kk μ' hq)
theorem vm_r_cs2I {x : Nat} {v0 v1 : Value} {z : Int32} (h : vm_lk k pc = some (q, (.invokestatic x), n, a, 2, kI, kL)) (ha : a < 900)  (hs : (st.map fun v => v.category).sum ≤ 8) (hM : C a [v0, v1] 0 0 μ (vm_PI z μ)) (kk : vm_W E C k Q (n, L, .int z :: st, c, d, μ)) : vm_W E C k Q (pc, L, v1 :: v0 :: st, c, d, μ) := by
  exact vm_r_call (as := [v0, v1]) (mc := 0) (ms := 0) h ha rfl hs (Or.inr (Or.inl ⟨x, rfl⟩)) hM (fun v μ' hq => by
    obtain ⟨rfl, rfl⟩ := hq
    exact kk)
theorem vm_r_cs2X {x : Nat} {v0 v1 : Value} {P : Int32 → vm_M → Prop} (h : vm_lk k pc = some (q, (.invokestatic x), n, a, 2, kI, kL)) (ha : a < 900)  (hs : (st.map fun v => v.category).sum ≤ 8) (hM : C a [v0, v1] 0 0 μ (vm_PX P)) (kk : ∀ z μ', P z μ' → vm_W E C k Q (n, L, .int z :: st, c, d, μ')) : vm_W E C k Q (pc, L, v1 :: v0 :: st, c, d, μ) := by
  exact vm_r_call (as := [v0, v1]) (mc := 0) (ms := 0) h ha rfl hs (Or.inr (Or.inl ⟨x, rfl⟩)) hM (fun v μ' hq => by
    obtain ⟨z, rfl, hq⟩ := hq
    exact kk z μ' hq)
theorem vm_r_cs2V {x : Nat} {v0 v1 : Value} {P : vm_M → Prop} (h : vm_lk k pc = some (q, (.invokestatic x), n, a, 2, kI, kL)) (ha : a < 900)  (hs : (st.map fun v => v.category).sum ≤ 8) (hM : C a [v0, v1] 0 0 μ (vm_PV P)) (kk : ∀ μ', P μ' → vm_W E C k Q (n, L, st, c, d, μ')) : vm_W E C k Q (pc, L, v1 :: v0 :: st, c, d, μ) := by
  exact vm_r_call (as := [v0, v1]) (mc := 0) (ms := 0) h ha rfl hs (Or.inr (Or.inl ⟨x, rfl⟩)) hM (fun v μ' hq => by
    obtain ⟨rfl, hq⟩ := hq
    exact kk μ' hq)
theorem vm_r_cs3I {x : Nat} {v0 v1 v2 : Value} {z : Int32} (h : vm_lk k pc = some (q, (.invokestatic x), n, a, 3, kI, kL)) (ha : a < 900)  (hs : (st.map fun v => v.category).sum ≤ 8) (hM : C a [v0, v1, v2] 0 0 μ (vm_PI z μ)) (kk : vm_W E C k Q (n, L, .int z :: st, c, d, μ)) : vm_W E C k Q (pc, L, v2 :: v1 :: v0 :: st, c, d, μ) := by
  exact vm_r_call (as := [v0, v1, v2]) (mc := 0) (ms := 0) h ha rfl hs (Or.inr (Or.inl ⟨x, rfl⟩)) hM (fun v μ' hq => by
    obtain ⟨rfl, rfl⟩ := hq
    exact kk)
theorem vm_r_cs3X {x : Nat} {v0 v1 v2 : Value} {P : Int32 → vm_M → Prop} (h : vm_lk k pc = some (q, (.invokestatic x), n, a, 3, kI, kL)) (ha : a < 900)  (hs : (st.map fun v => v.category).sum ≤ 8) (hM : C a [v0, v1, v2] 0 0 μ (vm_PX P)) (kk : ∀ z μ', P z μ' → vm_W E C k Q (n, L, .int z :: st, c, d, μ')) : vm_W E C k Q (pc, L, v2 :: v1 :: v0 :: st, c, d, μ) := by
  exact vm_r_call (as := [v0, v1, v2]) (mc := 0) (ms := 0) h ha rfl hs (Or.inr (Or.inl ⟨x, rfl⟩)) hM (fun v μ' hq => by
    obtain ⟨z, rfl, hq⟩ := hq
    exact kk z μ' hq)
theorem vm_r_cs3V {x : Nat} {v0 v1 v2 : Value} {P : vm_M → Prop} (h : vm_lk k pc = some (q, (.invokestatic x), n, a, 3, kI, kL)) (ha : a < 900)  (hs : (st.map fun v => v.category).sum ≤ 8) (hM : C a [v0, v1, v2] 0 0 μ (vm_PV P)) (kk : ∀ μ', P μ' → vm_W E C k Q (n, L, st, c, d, μ')) : vm_W E C k Q (pc, L, v2 :: v1 :: v0 :: st, c, d, μ) := by
  exact vm_r_call (as := [v0, v1, v2]) (mc := 0) (ms := 0) h ha rfl hs (Or.inr (Or.inl ⟨x, rfl⟩)) hM (fun v μ' hq => by
    obtain ⟨rfl, hq⟩ := hq
    exact kk μ' hq)
theorem vm_r_cs4I {x : Nat} {v0 v1 v2 v3 : Value} {z : Int32} (h : vm_lk k pc = some (q, (.invokestatic x), n, a, 4, kI, kL)) (ha : a < 900)  (hs : (st.map fun v => v.category).sum ≤ 8) (hM : C a [v0, v1, v2, v3] 0 0 μ (vm_PI z μ)) (kk : vm_W E C k Q (n, L, .int z :: st, c, d, μ)) : vm_W E C k Q (pc, L, v3 :: v2 :: v1 :: v0 :: st, c, d, μ) := by
  exact vm_r_call (as := [v0, v1, v2, v3]) (mc := 0) (ms := 0) h ha rfl hs (Or.inr (Or.inl ⟨x, rfl⟩)) hM (fun v μ' hq => by
    obtain ⟨rfl, rfl⟩ := hq
    exact kk)
theorem vm_r_cs4X {x : Nat} {v0 v1 v2 v3 : Value} {P : Int32 → vm_M → Prop} (h : vm_lk k pc = some (q, (.invokestatic x), n, a, 4, kI, kL)) (ha : a < 900)  (hs : (st.map fun v => v.category).sum ≤ 8) (hM : C a [v0, v1, v2, v3] 0 0 μ (vm_PX P)) (kk : ∀ z μ', P z μ' → vm_W E C k Q (n, L, .int z :: st, c, d, μ')) : vm_W E C k Q (pc, L, v3 :: v2 :: v1 :: v0 :: st, c, d, μ) := by
  exact vm_r_call (as := [v0, v1, v2, v3]) (mc := 0) (ms := 0) h ha rfl hs (Or.inr (Or.inl ⟨x, rfl⟩)) hM (fun v μ' hq => by
    obtain ⟨z, rfl, hq⟩ := hq
    exact kk z μ' hq)
theorem vm_r_cs4V {x : Nat} {v0 v1 v2 v3 : Value} {P : vm_M → Prop} (h : vm_lk k pc = some (q, (.invokestatic x), n, a, 4, kI, kL)) (ha : a < 900)  (hs : (st.map fun v => v.category).sum ≤ 8) (hM : C a [v0, v1, v2, v3] 0 0 μ (vm_PV P)) (kk : ∀ μ', P μ' → vm_W E C k Q (n, L, st, c, d, μ')) : vm_W E C k Q (pc, L, v3 :: v2 :: v1 :: v0 :: st, c, d, μ) := by
  exact vm_r_call (as := [v0, v1, v2, v3]) (mc := 0) (ms := 0) h ha rfl hs (Or.inr (Or.inl ⟨x, rfl⟩)) hM (fun v μ' hq => by
    obtain ⟨rfl, hq⟩ := hq
    exact kk μ' hq)
theorem vm_r_cs5I {x : Nat} {v0 v1 v2 v3 v4 : Value} {z : Int32} (h : vm_lk k pc = some (q, (.invokestatic x), n, a, 5, kI, kL)) (ha : a < 900)  (hs : (st.map fun v => v.category).sum ≤ 8) (hM : C a [v0, v1, v2, v3, v4] 0 0 μ (vm_PI z μ)) (kk : vm_W E C k Q (n, L, .int z :: st, c, d, μ)) : vm_W E C k Q (pc, L, v4 :: v3 :: v2 :: v1 :: v0 :: st, c, d, μ) := by
  exact vm_r_call (as := [v0, v1, v2, v3, v4]) (mc := 0) (ms := 0) h ha rfl hs (Or.inr (Or.inl ⟨x, rfl⟩)) hM (fun v μ' hq => by
    obtain ⟨rfl, rfl⟩ := hq
    exact kk)
theorem vm_r_cs5X {x : Nat} {v0 v1 v2 v3 v4 : Value} {P : Int32 → vm_M → Prop} (h : vm_lk k pc = some (q, (.invokestatic x), n, a, 5, kI, kL)) (ha : a < 900)  (hs : (st.map fun v => v.category).sum ≤ 8) (hM : C a [v0, v1, v2, v3, v4] 0 0 μ (vm_PX P)) (kk : ∀ z μ', P z μ' → vm_W E C k Q (n, L, .int z :: st, c, d, μ')) : vm_W E C k Q (pc, L, v4 :: v3 :: v2 :: v1 :: v0 :: st, c, d, μ) := by
  exact vm_r_call (as := [v0, v1, v2, v3, v4]) (mc := 0) (ms := 0) h ha rfl hs (Or.inr (Or.inl ⟨x, rfl⟩)) hM (fun v μ' hq => by
    obtain ⟨z, rfl, hq⟩ := hq
    exact kk z μ' hq)
theorem vm_r_cs5V {x : Nat} {v0 v1 v2 v3 v4 : Value} {P : vm_M → Prop} (h : vm_lk k pc = some (q, (.invokestatic x), n, a, 5, kI, kL)) (ha : a < 900)  (hs : (st.map fun v => v.category).sum ≤ 8) (hM : C a [v0, v1, v2, v3, v4] 0 0 μ (vm_PV P)) (kk : ∀ μ', P μ' → vm_W E C k Q (n, L, st, c, d, μ')) : vm_W E C k Q (pc, L, v4 :: v3 :: v2 :: v1 :: v0 :: st, c, d, μ) := by
  exact vm_r_call (as := [v0, v1, v2, v3, v4]) (mc := 0) (ms := 0) h ha rfl hs (Or.inr (Or.inl ⟨x, rfl⟩)) hM (fun v μ' hq => by
    obtain ⟨rfl, hq⟩ := hq
    exact kk μ' hq)
theorem vm_r_cv1I {x o : Nat} {z : Int32} (h : vm_lk k pc = some (q, (.invokevirtual x), n, a, 1, kI, kL)) (ha : a < 900) (hob : vm_ob μ o (vm_mc a)) (hs : (st.map fun v => v.category).sum ≤ 8) (hM : C a [.ref o] 0 0 μ (vm_PI z μ)) (kk : vm_W E C k Q (n, L, .int z :: st, c, d, μ)) : vm_W E C k Q (pc, L, .ref o :: st, c, d, μ) := by
  obtain ⟨fl, hob⟩ := hob
  exact vm_r_call (as := [.ref o]) (mc := 0) (ms := 0) h ha rfl hs (Or.inl ⟨x, o, _, _, rfl, rfl, hob⟩) hM (fun v μ' hq => by
    obtain ⟨rfl, rfl⟩ := hq
    exact kk)
theorem vm_r_cv1X {x o : Nat} {P : Int32 → vm_M → Prop} (h : vm_lk k pc = some (q, (.invokevirtual x), n, a, 1, kI, kL)) (ha : a < 900) (hob : vm_ob μ o (vm_mc a)) (hs : (st.map fun v => v.category).sum ≤ 8) (hM : C a [.ref o] 0 0 μ (vm_PX P)) (kk : ∀ z μ', P z μ' → vm_W E C k Q (n, L, .int z :: st, c, d, μ')) : vm_W E C k Q (pc, L, .ref o :: st, c, d, μ) := by
  obtain ⟨fl, hob⟩ := hob
  exact vm_r_call (as := [.ref o]) (mc := 0) (ms := 0) h ha rfl hs (Or.inl ⟨x, o, _, _, rfl, rfl, hob⟩) hM (fun v μ' hq => by
    obtain ⟨z, rfl, hq⟩ := hq
    exact kk z μ' hq)
theorem vm_r_cv1V {x o : Nat} {P : vm_M → Prop} (h : vm_lk k pc = some (q, (.invokevirtual x), n, a, 1, kI, kL)) (ha : a < 900) (hob : vm_ob μ o (vm_mc a)) (hs : (st.map fun v => v.category).sum ≤ 8) (hM : C a [.ref o] 0 0 μ (vm_PV P)) (kk : ∀ μ', P μ' → vm_W E C k Q (n, L, st, c, d, μ')) : vm_W E C k Q (pc, L, .ref o :: st, c, d, μ) := by
  obtain ⟨fl, hob⟩ := hob
  exact vm_r_call (as := [.ref o]) (mc := 0) (ms := 0) h ha rfl hs (Or.inl ⟨x, o, _, _, rfl, rfl, hob⟩) hM (fun v μ' hq => by
    obtain ⟨rfl, hq⟩ := hq
    exact kk μ' hq)
theorem vm_r_cv2I {x o : Nat} {v1 : Value} {z : Int32} (h : vm_lk k pc = some (q, (.invokevirtual x), n, a, 2, kI, kL)) (ha : a < 900) (hob : vm_ob μ o (vm_mc a)) (hs : (st.map fun v => v.category).sum ≤ 8) (hM : C a [.ref o, v1] 0 0 μ (vm_PI z μ)) (kk : vm_W E C k Q (n, L, .int z :: st, c, d, μ)) : vm_W E C k Q (pc, L, v1 :: .ref o :: st, c, d, μ) := by
  obtain ⟨fl, hob⟩ := hob
  exact vm_r_call (as := [.ref o, v1]) (mc := 0) (ms := 0) h ha rfl hs (Or.inl ⟨x, o, _, _, rfl, rfl, hob⟩) hM (fun v μ' hq => by
    obtain ⟨rfl, rfl⟩ := hq
    exact kk)
theorem vm_r_cv2X {x o : Nat} {v1 : Value} {P : Int32 → vm_M → Prop} (h : vm_lk k pc = some (q, (.invokevirtual x), n, a, 2, kI, kL)) (ha : a < 900) (hob : vm_ob μ o (vm_mc a)) (hs : (st.map fun v => v.category).sum ≤ 8) (hM : C a [.ref o, v1] 0 0 μ (vm_PX P)) (kk : ∀ z μ', P z μ' → vm_W E C k Q (n, L, .int z :: st, c, d, μ')) : vm_W E C k Q (pc, L, v1 :: .ref o :: st, c, d, μ) := by
  obtain ⟨fl, hob⟩ := hob
  exact vm_r_call (as := [.ref o, v1]) (mc := 0) (ms := 0) h ha rfl hs (Or.inl ⟨x, o, _, _, rfl, rfl, hob⟩) hM (fun v μ' hq => by
    obtain ⟨z, rfl, hq⟩ := hq
    exact kk z μ' hq)
theorem vm_r_cv2V {x o : Nat} {v1 : Value} {P : vm_M → Prop} (h : vm_lk k pc = some (q, (.invokevirtual x), n, a, 2, kI, kL)) (ha : a < 900) (hob : vm_ob μ o (vm_mc a)) (hs : (st.map fun v => v.category).sum ≤ 8) (hM : C a [.ref o, v1] 0 0 μ (vm_PV P)) (kk : ∀ μ', P μ' → vm_W E C k Q (n, L, st, c, d, μ')) : vm_W E C k Q (pc, L, v1 :: .ref o :: st, c, d, μ) := by
  obtain ⟨fl, hob⟩ := hob
  exact vm_r_call (as := [.ref o, v1]) (mc := 0) (ms := 0) h ha rfl hs (Or.inl ⟨x, o, _, _, rfl, rfl, hob⟩) hM (fun v μ' hq => by
    obtain ⟨rfl, hq⟩ := hq
    exact kk μ' hq)
theorem vm_r_cv3I {x o : Nat} {v1 v2 : Value} {z : Int32} (h : vm_lk k pc = some (q, (.invokevirtual x), n, a, 3, kI, kL)) (ha : a < 900) (hob : vm_ob μ o (vm_mc a)) (hs : (st.map fun v => v.category).sum ≤ 8) (hM : C a [.ref o, v1, v2] 0 0 μ (vm_PI z μ)) (kk : vm_W E C k Q (n, L, .int z :: st, c, d, μ)) : vm_W E C k Q (pc, L, v2 :: v1 :: .ref o :: st, c, d, μ) := by
  obtain ⟨fl, hob⟩ := hob
  exact vm_r_call (as := [.ref o, v1, v2]) (mc := 0) (ms := 0) h ha rfl hs (Or.inl ⟨x, o, _, _, rfl, rfl, hob⟩) hM (fun v μ' hq => by
    obtain ⟨rfl, rfl⟩ := hq
    exact kk)
theorem vm_r_cv3X {x o : Nat} {v1 v2 : Value} {P : Int32 → vm_M → Prop} (h : vm_lk k pc = some (q, (.invokevirtual x), n, a, 3, kI, kL)) (ha : a < 900) (hob : vm_ob μ o (vm_mc a)) (hs : (st.map fun v => v.category).sum ≤ 8) (hM : C a [.ref o, v1, v2] 0 0 μ (vm_PX P)) (kk : ∀ z μ', P z μ' → vm_W E C k Q (n, L, .int z :: st, c, d, μ')) : vm_W E C k Q (pc, L, v2 :: v1 :: .ref o :: st, c, d, μ) := by
  obtain ⟨fl, hob⟩ := hob
  exact vm_r_call (as := [.ref o, v1, v2]) (mc := 0) (ms := 0) h ha rfl hs (Or.inl ⟨x, o, _, _, rfl, rfl, hob⟩) hM (fun v μ' hq => by
    obtain ⟨z, rfl, hq⟩ := hq
    exact kk z μ' hq)
theorem vm_r_cv3V {x o : Nat} {v1 v2 : Value} {P : vm_M → Prop} (h : vm_lk k pc = some (q, (.invokevirtual x), n, a, 3, kI, kL)) (ha : a < 900) (hob : vm_ob μ o (vm_mc a)) (hs : (st.map fun v => v.category).sum ≤ 8) (hM : C a [.ref o, v1, v2] 0 0 μ (vm_PV P)) (kk : ∀ μ', P μ' → vm_W E C k Q (n, L, st, c, d, μ')) : vm_W E C k Q (pc, L, v2 :: v1 :: .ref o :: st, c, d, μ) := by
  obtain ⟨fl, hob⟩ := hob
  exact vm_r_call (as := [.ref o, v1, v2]) (mc := 0) (ms := 0) h ha rfl hs (Or.inl ⟨x, o, _, _, rfl, rfl, hob⟩) hM (fun v μ' hq => by
    obtain ⟨rfl, hq⟩ := hq
    exact kk μ' hq)
theorem vm_r_cv4I {x o : Nat} {v1 v2 v3 : Value} {z : Int32} (h : vm_lk k pc = some (q, (.invokevirtual x), n, a, 4, kI, kL)) (ha : a < 900) (hob : vm_ob μ o (vm_mc a)) (hs : (st.map fun v => v.category).sum ≤ 8) (hM : C a [.ref o, v1, v2, v3] 0 0 μ (vm_PI z μ)) (kk : vm_W E C k Q (n, L, .int z :: st, c, d, μ)) : vm_W E C k Q (pc, L, v3 :: v2 :: v1 :: .ref o :: st, c, d, μ) := by
  obtain ⟨fl, hob⟩ := hob
  exact vm_r_call (as := [.ref o, v1, v2, v3]) (mc := 0) (ms := 0) h ha rfl hs (Or.inl ⟨x, o, _, _, rfl, rfl, hob⟩) hM (fun v μ' hq => by
    obtain ⟨rfl, rfl⟩ := hq
    exact kk)
theorem vm_r_cv4X {x o : Nat} {v1 v2 v3 : Value} {P : Int32 → vm_M → Prop} (h : vm_lk k pc = some (q, (.invokevirtual x), n, a, 4, kI, kL)) (ha : a < 900) (hob : vm_ob μ o (vm_mc a)) (hs : (st.map fun v => v.category).sum ≤ 8) (hM : C a [.ref o, v1, v2, v3] 0 0 μ (vm_PX P)) (kk : ∀ z μ', P z μ' → vm_W E C k Q (n, L, .int z :: st, c, d, μ')) : vm_W E C k Q (pc, L, v3 :: v2 :: v1 :: .ref o :: st, c, d, μ) := by
  obtain ⟨fl, hob⟩ := hob
  exact vm_r_call (as := [.ref o, v1, v2, v3]) (mc := 0) (ms := 0) h ha rfl hs (Or.inl ⟨x, o, _, _, rfl, rfl, hob⟩) hM (fun v μ' hq => by
    obtain ⟨z, rfl, hq⟩ := hq
    exact kk z μ' hq)
theorem vm_r_cv4V {x o : Nat} {v1 v2 v3 : Value} {P : vm_M → Prop} (h : vm_lk k pc = some (q, (.invokevirtual x), n, a, 4, kI, kL)) (ha : a < 900) (hob : vm_ob μ o (vm_mc a)) (hs : (st.map fun v => v.category).sum ≤ 8) (hM : C a [.ref o, v1, v2, v3] 0 0 μ (vm_PV P)) (kk : ∀ μ', P μ' → vm_W E C k Q (n, L, st, c, d, μ')) : vm_W E C k Q (pc, L, v3 :: v2 :: v1 :: .ref o :: st, c, d, μ) := by
  obtain ⟨fl, hob⟩ := hob
  exact vm_r_call (as := [.ref o, v1, v2, v3]) (mc := 0) (ms := 0) h ha rfl hs (Or.inl ⟨x, o, _, _, rfl, rfl, hob⟩) hM (fun v μ' hq => by
    obtain ⟨rfl, hq⟩ := hq
    exact kk μ' hq)
theorem vm_r_cv5I {x o : Nat} {v1 v2 v3 v4 : Value} {z : Int32} (h : vm_lk k pc = some (q, (.invokevirtual x), n, a, 5, kI, kL)) (ha : a < 900) (hob : vm_ob μ o (vm_mc a)) (hs : (st.map fun v => v.category).sum ≤ 8) (hM : C a [.ref o, v1, v2, v3, v4] 0 0 μ (vm_PI z μ)) (kk : vm_W E C k Q (n, L, .int z :: st, c, d, μ)) : vm_W E C k Q (pc, L, v4 :: v3 :: v2 :: v1 :: .ref o :: st, c, d, μ) := by
  obtain ⟨fl, hob⟩ := hob
  exact vm_r_call (as := [.ref o, v1, v2, v3, v4]) (mc := 0) (ms := 0) h ha rfl hs (Or.inl ⟨x, o, _, _, rfl, rfl, hob⟩) hM (fun v μ' hq => by
    obtain ⟨rfl, rfl⟩ := hq
    exact kk)
theorem vm_r_cv5X {x o : Nat} {v1 v2 v3 v4 : Value} {P : Int32 → vm_M → Prop} (h : vm_lk k pc = some (q, (.invokevirtual x), n, a, 5, kI, kL)) (ha : a < 900) (hob : vm_ob μ o (vm_mc a)) (hs : (st.map fun v => v.category).sum ≤ 8) (hM : C a [.ref o, v1, v2, v3, v4] 0 0 μ (vm_PX P)) (kk : ∀ z μ', P z μ' → vm_W E C k Q (n, L, .int z :: st, c, d, μ')) : vm_W E C k Q (pc, L, v4 :: v3 :: v2 :: v1 :: .ref o :: st, c, d, μ) := by
  obtain ⟨fl, hob⟩ := hob
  exact vm_r_call (as := [.ref o, v1, v2, v3, v4]) (mc := 0) (ms := 0) h ha rfl hs (Or.inl ⟨x, o, _, _, rfl, rfl, hob⟩) hM (fun v μ' hq => by
    obtain ⟨z, rfl, hq⟩ := hq
    exact kk z μ' hq)
theorem vm_r_cv5V {x o : Nat} {v1 v2 v3 v4 : Value} {P : vm_M → Prop} (h : vm_lk k pc = some (q, (.invokevirtual x), n, a, 5, kI, kL)) (ha : a < 900) (hob : vm_ob μ o (vm_mc a)) (hs : (st.map fun v => v.category).sum ≤ 8) (hM : C a [.ref o, v1, v2, v3, v4] 0 0 μ (vm_PV P)) (kk : ∀ μ', P μ' → vm_W E C k Q (n, L, st, c, d, μ')) : vm_W E C k Q (pc, L, v4 :: v3 :: v2 :: v1 :: .ref o :: st, c, d, μ) := by
  obtain ⟨fl, hob⟩ := hob
  exact vm_r_call (as := [.ref o, v1, v2, v3, v4]) (mc := 0) (ms := 0) h ha rfl hs (Or.inl ⟨x, o, _, _, rfl, rfl, hob⟩) hM (fun v μ' hq => by
    obtain ⟨rfl, hq⟩ := hq
    exact kk μ' hq)
theorem vm_r_cp1V {x o : Nat} {P : vm_M → Prop} {mc ms : Nat} (h : vm_lk k pc = some (q, (.invokespecial x), n, a, 1, kI, kL)) (ha : a < 900)  (hs : (st.map fun v => v.category).sum ≤ 8) (hM : C a [.ref o] mc ms μ (vm_PV P)) (kk : ∀ μ', P μ' → vm_W E C k Q (n, L, st, c, d, μ')) : vm_W E C k Q (pc, L, .ref o :: st, c + mc, d + ms, μ) := by
  exact vm_r_call (as := [.ref o]) (mc := mc) (ms := ms) h ha rfl hs (Or.inr (Or.inr ⟨x, o, _, rfl, rfl⟩)) hM (fun v μ' hq => by
    obtain ⟨rfl, hq⟩ := hq
    exact kk μ' hq)
theorem vm_r_cp2V {x o : Nat} {v1 : Value} {P : vm_M → Prop} {mc ms : Nat} (h : vm_lk k pc = some (q, (.invokespecial x), n, a, 2, kI, kL)) (ha : a < 900)  (hs : (st.map fun v => v.category).sum ≤ 8) (hM : C a [.ref o, v1] mc ms μ (vm_PV P)) (kk : ∀ μ', P μ' → vm_W E C k Q (n, L, st, c, d, μ')) : vm_W E C k Q (pc, L, v1 :: .ref o :: st, c + mc, d + ms, μ) := by
  exact vm_r_call (as := [.ref o, v1]) (mc := mc) (ms := ms) h ha rfl hs (Or.inr (Or.inr ⟨x, o, _, rfl, rfl⟩)) hM (fun v μ' hq => by
    obtain ⟨rfl, hq⟩ := hq
    exact kk μ' hq)
theorem vm_r_cp3V {x o : Nat} {v1 v2 : Value} {P : vm_M → Prop} {mc ms : Nat} (h : vm_lk k pc = some (q, (.invokespecial x), n, a, 3, kI, kL)) (ha : a < 900)  (hs : (st.map fun v => v.category).sum ≤ 8) (hM : C a [.ref o, v1, v2] mc ms μ (vm_PV P)) (kk : ∀ μ', P μ' → vm_W E C k Q (n, L, st, c, d, μ')) : vm_W E C k Q (pc, L, v2 :: v1 :: .ref o :: st, c + mc, d + ms, μ) := by
  exact vm_r_call (as := [.ref o, v1, v2]) (mc := mc) (ms := ms) h ha rfl hs (Or.inr (Or.inr ⟨x, o, _, rfl, rfl⟩)) hM (fun v μ' hq => by
    obtain ⟨rfl, hq⟩ := hq
    exact kk μ' hq)
theorem vm_r_cp4V {x o : Nat} {v1 v2 v3 : Value} {P : vm_M → Prop} {mc ms : Nat} (h : vm_lk k pc = some (q, (.invokespecial x), n, a, 4, kI, kL)) (ha : a < 900)  (hs : (st.map fun v => v.category).sum ≤ 8) (hM : C a [.ref o, v1, v2, v3] mc ms μ (vm_PV P)) (kk : ∀ μ', P μ' → vm_W E C k Q (n, L, st, c, d, μ')) : vm_W E C k Q (pc, L, v3 :: v2 :: v1 :: .ref o :: st, c + mc, d + ms, μ) := by
  exact vm_r_call (as := [.ref o, v1, v2, v3]) (mc := mc) (ms := ms) h ha rfl hs (Or.inr (Or.inr ⟨x, o, _, rfl, rfl⟩)) hM (fun v μ' hq => by
    obtain ⟨rfl, hq⟩ := hq
    exact kk μ' hq)
theorem vm_r_cp5V {x o : Nat} {v1 v2 v3 v4 : Value} {P : vm_M → Prop} {mc ms : Nat} (h : vm_lk k pc = some (q, (.invokespecial x), n, a, 5, kI, kL)) (ha : a < 900)  (hs : (st.map fun v => v.category).sum ≤ 8) (hM : C a [.ref o, v1, v2, v3, v4] mc ms μ (vm_PV P)) (kk : ∀ μ', P μ' → vm_W E C k Q (n, L, st, c, d, μ')) : vm_W E C k Q (pc, L, v4 :: v3 :: v2 :: v1 :: .ref o :: st, c + mc, d + ms, μ) := by
  exact vm_r_call (as := [.ref o, v1, v2, v3, v4]) (mc := mc) (ms := ms) h ha rfl hs (Or.inr (Or.inr ⟨x, o, _, rfl, rfl⟩)) hM (fun v μ' hq => by
    obtain ⟨rfl, hq⟩ := hq
    exact kk μ' hq)
theorem vm_r_ret {v : Int32} (h : vm_lk k pc = some (q, .ireturn, n, a, b, kI, kL)) (hb : b = 1 → v = 0 ∨ v = 1) (hQ : Q (some (.int v)) μ) : vm_W E C k Q (pc, L, [.int v], c, d, μ) := vm_fold ⟨q, _, n, a, b, kI, kL, h, Or.inr (Or.inr ⟨pc, L, _, c, d, μ, rfl, Or.inl ⟨v, rfl, rfl, hb, hQ⟩⟩)⟩
theorem vm_r_vret (h : vm_lk k pc = some (q, .return_, n, a, b, kI, kL)) (hQ : Q none μ) : vm_W E C k Q (pc, L, [], c, d, μ) := vm_fold ⟨q, _, n, a, b, kI, kL, h, Or.inr (Or.inr ⟨pc, L, _, c, d, μ, rfl, Or.inr ⟨rfl, rfl, hQ⟩⟩)⟩
theorem vm_start {D M mc ms : Nat} {as : List Value} (hM : M < 161) (ha : as.all vm_isA = true) (hl : (vm_sl as).length ≤ vm_mx M) (hk : vm_code M = k) (hL : vm_ent M as = L) (h : vm_W E (vm_Ex E D) k Q (0, L, [], mc, ms, μ)) : vm_Ex E (D + 1) M as mc ms μ Q := by
  subst hk
  subst hL
  exact ⟨hM, ha, hl, h⟩
/-- up to a bound -/
theorem vm_up {P : Nat → Prop} {N : Nat} (hN : P N) (h : ∀ i, i < N → P (i + 1) → P i) : ∀ i, i ≤ N → P i := by
  intro i hi
  obtain ⟨m, rfl⟩ : ∃ m, N = i + m := ⟨N - i, by omega⟩
  clear hi
  induction m generalizing i with
  | zero => exact hN
  | succ m ih => exact h i (by omega) (ih (i + 1) (by rw [show i + 1 + m = i + (m + 1) by omega]; exact hN) (fun j hj => h j (by omega)))
end RULES
