/-! A small machine over a small memory: what the walks of all methods are written in; part 'sound' ties it to the machine itself. -/
def vm_lk : List vm_E → Nat → Option vm_E
  | [], _ => none
  | e :: r, pc => bif Nat.beq e.1 pc then some e else vm_lk r pc
/-- what a cell is: an object (its class, its fields: none is an int, some a reference that may be null), or a row of a kind and a length -/
abbrev vm_Sh : Type := (Nat × List (Option (Option Nat))) ⊕ (Nat × Nat)
/-- the memory: shapes, ints, references in rows, longs, the next cell -/
abbrev vm_M : Type := (Nat → Option vm_Sh) × (Nat → Nat → Int32) × (Nat → Nat → Option Nat) × (Nat → Nat → Int64) × Nat
/-- a frame: place, locals, stack, cells and slots that may still be made, memory -/
abbrev vm_S : Type := Nat × List Value × List Value × Nat × Nat × vm_M
/-- what lies outside: the text constant's cell, the script's cell, its length and its ints -/
abbrev vm_V : Type := Nat × Nat × Nat × (Nat → Int32)
def vm_u {α : Type} (f : Nat → Nat → α) (a k : Nat) (v : α) : Nat → Nat → α := fun b => if b = a then (fun j => if j = k then v else f a j) else f b
def vm_set {α : Type} (f : Nat → α) (a : Nat) (v : α) : Nat → α := fun b => if b = a then v else f b
def vm_txt : List Int32 := [103, 48, 44, 52, 44, 48, 49, 50, 51, 52, 59, 103, 49, 44, 51, 44, 51, 49, 50, 51, 48, 59, 103, 50, 44, 53, 44, 48, 48, 53, 53, 53, 59, 103, 51, 44, 56, 44, 49, 50, 51, 50, 49, 59, 112, 48, 49, 51, 51, 51, 59, 112, 53, 53, 48, 48, 48, 59, 112, 48, 50, 50, 52, 52, 59, 112, 51, 49, 50, 49, 50, 59]
def vm_cond (c : ClassFile.Cond) (x y : Int32) : Prop := match c with
  | .eq => x = y
  | .ne => ¬ x = y
  | .lt => x < y
  | .ge => y ≤ x
  | .gt => y < x
  | .le => x ≤ y
/-- of the stack alone -/
def vm_pure (i : Instr) (a : Nat) (kI : Int32) (kL : Int64) (st st' : List Value) : Prop :=
  (((∃ z, i = .iconst z) ∨ (∃ z, i = .bipush z) ∨ (∃ z, i = .sipush z) ∨ (∃ x, i = .ldc x ∧ a = 0) ∨ (∃ x, i = .ldc_w x)) ∧ st' = .int kI :: st) ∨
  (((∃ z, i = .lconst z) ∨ (∃ x, i = .ldc2_w x)) ∧ st' = .long kL :: st) ∨
  (∃ (x y : Int32) (r : List Value), st = .int y :: .int x :: r ∧
    ((i = .iadd ∧ st' = .int (x + y) :: r) ∨ (i = .isub ∧ st' = .int (x - y) :: r) ∨ (i = .imul ∧ st' = .int (x * y) :: r) ∨
     (i = .idiv ∧ ¬ y = 0 ∧ st' = .int (x / y) :: r) ∨ (i = .irem ∧ ¬ y = 0 ∧ st' = .int (x - x / y * y) :: r) ∨
     (i = .iand ∧ st' = .int (x &&& y) :: r) ∨ (i = .ior ∧ st' = .int (x ||| y) :: r) ∨ (i = .ixor ∧ st' = .int (x ^^^ y) :: r) ∨
     (i = .ishl ∧ st' = .int (x <<< (y &&& 31)) :: r) ∨ (i = .ishr ∧ st' = .int (x >>> (y &&& 31)) :: r) ∨
     (i = .iushr ∧ st' = .int (x.toUInt32 >>> (y.toUInt32 &&& Int32.toUInt32 31)).toInt32 :: r))) ∨
  (∃ (x y : Int64) (r : List Value), st = .long y :: .long x :: r ∧
    ((i = .ladd ∧ st' = .long (x + y) :: r) ∨ (i = .lmul ∧ st' = .long (x * y) :: r) ∨
     (i = .ldiv ∧ ¬ y = 0 ∧ st' = .long (x / y) :: r) ∨ (i = .lrem ∧ ¬ y = 0 ∧ st' = .long (x - x / y * y) :: r) ∨
     (i = .land ∧ st' = .long (x &&& y) :: r) ∨ (i = .lor ∧ st' = .long (x ||| y) :: r) ∨ (i = .lcmp ∧ st' = .int (lg_cmp x y) :: r))) ∨
  (∃ (x : Int32) (r : List Value), st = .int x :: r ∧
    ((i = .ineg ∧ st' = .int (-x) :: r) ∨ (i = .i2l ∧ st' = .long x.toInt64 :: r) ∨ (i = .i2c ∧ st' = .int (x.toUInt32 % 65536).toInt32 :: r))) ∨
  (∃ (x : Int64) (r : List Value), st = .long x :: r ∧ i = .l2i ∧ st' = .int x.toInt32 :: r) ∨
  (∃ (x : Int64) (y : Int32) (r : List Value), st = .int y :: .long x :: r ∧ i = .lshl ∧ st' = .long (x <<< (y.toInt64 &&& 63)) :: r) ∨
  (∃ (v : Value) (r : List Value), v.category = 1 ∧ st = v :: r ∧ ((i = .dup ∧ st' = v :: v :: r) ∨ (i = .pop ∧ st' = r))) ∨
  (∃ (v w : Value) (r : List Value), v.category = 1 ∧ w.category = 1 ∧ st = v :: w :: r ∧ i = .dup2 ∧ st' = v :: w :: v :: w :: r)
/-- a local is read -/
def vm_load (L : List Value) (i : Instr) (a : Nat) (st st' : List Value) : Prop :=
  (∃ x : Int32, L[a]? = some (.int x) ∧ st' = .int x :: st ∧ (i = .iload a ∨ ∃ k : Fin 4, i = .iload_n k ∧ (k : Nat) = a)) ∨
  (∃ x : Nat, L[a]? = some (.ref x) ∧ st' = .ref x :: st ∧ (i = .aload a ∨ ∃ k : Fin 4, i = .aload_n k ∧ (k : Nat) = a)) ∨
  (∃ x : Int64, L[a]? = some (.long x) ∧ st' = .long x :: st ∧ (i = .lload a ∨ ∃ k : Fin 4, i = .lload_n k ∧ (k : Nat) = a))
/-- the memory is read -/
def vm_read (E : vm_V) (μ : vm_M) (i : Instr) (a b : Nat) (st st' : List Value) : Prop :=
  (∃ (x o : Nat) (r : List Value) (fl : List (Option (Option Nat))), i = .getfield x ∧ st = .ref o :: r ∧ μ.1 o = some (.inl (a, fl)) ∧
    ((fl[b]? = some none ∧ st' = .int (μ.2.1 o b) :: r) ∨ ∃ q : Nat, fl[b]? = some (some (some q)) ∧ st' = .ref q :: r)) ∨
  (∃ (j : Int32) (o N : Nat) (r : List Value), st = .int j :: .ref o :: r ∧ vp_in j N ∧
    ((i = .iaload ∧ μ.1 o = some (.inr (0, N)) ∧ st' = .int (μ.2.1 o j.toNatClampNeg) :: r) ∨
     (i = .caload ∧ μ.1 o = some (.inr (1, N)) ∧ st' = .int (μ.2.1 o j.toNatClampNeg) :: r) ∨
     (i = .baload ∧ μ.1 o = some (.inr (2, N)) ∧ st' = .int (μ.2.1 o j.toNatClampNeg) :: r) ∨
     (i = .laload ∧ μ.1 o = some (.inr (3, N)) ∧ st' = .long (μ.2.2.2.1 o j.toNatClampNeg) :: r) ∨
     (i = .aaload ∧ (μ.1 o = some (.inr (4, N)) ∨ μ.1 o = some (.inr (5, N))) ∧ st' = va_rf (μ.2.2.1 o j.toNatClampNeg) :: r) ∨
     (i = .iaload ∧ o = E.2.1 ∧ N = E.2.2.1 ∧ st' = .int (E.2.2.2 j.toNatClampNeg) :: r))) ∨
  (∃ (o t N : Nat) (r : List Value), i = .arraylength ∧ st = .ref o :: r ∧ ((μ.1 o = some (.inr (t, N)) ∧ t < 6) ∨ (o = E.2.1 ∧ N = E.2.2.1)) ∧ st' = .int (Int32.ofNat N) :: r) ∨
  (∃ (x : Nat) (v : Int32) (r : List Value), i = .invokestatic x ∧ a = 900 ∧ st = .int v :: r ∧ (r.map fun v => v.category).sum ≤ 8 ∧ st' = .int (if 0 ≤ v then v else 0 - v) :: r) ∨
  (∃ (x : Nat) (v w : Int32) (r : List Value), i = .invokestatic x ∧ a = 901 ∧ st = .int w :: .int v :: r ∧ (r.map fun v => v.category).sum ≤ 8 ∧ st' = .int (if v < w then w else v) :: r) ∨
  (∃ (x o : Nat) (r : List Value), i = .invokespecial x ∧ a = 903 ∧ st = .ref o :: r ∧ (r.map fun v => v.category).sum ≤ 8 ∧ st' = r) ∨
  (∃ (x : Nat), i = .ldc x ∧ a = 906 ∧ st' = .ref E.1 :: st) ∨
  (∃ (x : Nat) (r : List Value), i = .invokevirtual x ∧ a = 904 ∧ st = .ref E.1 :: r ∧ (r.map fun v => v.category).sum ≤ 8 ∧ st' = .int (nI 72) :: r) ∨
  (∃ (x k : Nat) (r : List Value), i = .invokevirtual x ∧ a = 905 ∧ st = .int (nI k) :: .ref E.1 :: r ∧ k < 72 ∧ (r.map fun v => v.category).sum ≤ 8 ∧ st' = .int (vm_txt.getD k 0) :: r)
/-- where it goes on -/
def vm_br (p : Nat) (i : Instr) (a n : Nat) (st st' : List Value) (n' : Nat) : Prop :=
  (∃ o, i = .goto o ∧ st' = st ∧ n' = a) ∨
  (∃ (c : ClassFile.Cond) (o : Int) (x : Int32), i = .ifCond c o ∧ st = .int x :: st' ∧ (vm_cond c x 0 → n' = a) ∧ (¬ vm_cond c x 0 → n' = n)) ∨
  (∃ (c : ClassFile.Cond) (o : Int) (x y : Int32), i = .if_icmp c o ∧ st = .int y :: .int x :: st' ∧ (vm_cond c x y → n' = a) ∧ (¬ vm_cond c x y → n' = n)) ∨
  (∃ (o : Int) (x : Nat), i = .ifnonnull o ∧ st = .ref x :: st' ∧ n' = a) ∨
  (∃ (o : Int) (x : Nat), i = .ifnull o ∧ st = .ref x :: st' ∧ n' = n) ∨
  (∃ (df lo hi : Int) (os : Array Int) (x : Int32), i = .tableswitch df lo hi os ∧ st = .int x :: st' ∧
    (((x.toInt < lo ∨ hi < x.toInt) ∧ (p : Int) + df = (n' : Int)) ∨
     ∃ off : Int, ¬ x.toInt < lo ∧ ¬ hi < x.toInt ∧ os[(x.toInt - lo).toNat]? = some off ∧ (p : Int) + off = (n' : Int)))
/-- no long begins just ahead of the place -/
def vm_nl (L : List Value) (a : Nat) : Prop := ∀ (j : Nat) (x : Int64), a = j + 1 → L[j]? ≠ some (.long x)
/-- a local is written -/
def vm_store (L : List Value) (i : Instr) (a : Nat) (kI : Int32) (st st' L' : List Value) : Prop :=
  a < L.length ∧ vm_nl L a ∧
  ((∃ x : Int32, st = .int x :: st' ∧ L' = L.set a (.int x) ∧ (i = .istore a ∨ ∃ k : Fin 4, i = .istore_n k ∧ (k : Nat) = a)) ∨
   (∃ x : Nat, st = .ref x :: st' ∧ L' = L.set a (.ref x) ∧ (i = .astore a ∨ ∃ k : Fin 4, i = .astore_n k ∧ (k : Nat) = a)) ∨
   (∃ x : Int64, st = .long x :: st' ∧ a + 1 < L.length ∧ L' = (L.set a (.long x)).set (a + 1) (.retAddr 0) ∧ (i = .lstore a ∨ ∃ k : Fin 4, i = .lstore_n k ∧ (k : Nat) = a)) ∨
   (∃ (x : Int32) (z : Int), st = st' ∧ L[a]? = some (.int x) ∧ L' = L.set a (.int (x + kI)) ∧ i = .iinc a z))
def vm_mI (μ : vm_M) (o k : Nat) (v : Int32) : vm_M := (μ.1, vm_u μ.2.1 o k v, μ.2.2)
def vm_mJ (μ : vm_M) (o k : Nat) (v : Int64) : vm_M := (μ.1, μ.2.1, μ.2.2.1, vm_u μ.2.2.2.1 o k v, μ.2.2.2.2)
def vm_mR (μ : vm_M) (o k : Nat) (v : Option Nat) : vm_M := (μ.1, μ.2.1, vm_u μ.2.2.1 o k v, μ.2.2.2)
def vm_mS (μ : vm_M) (o : Nat) (v : vm_Sh) : vm_M := (vm_set μ.1 o (some v), μ.2)
def vm_cp (μ : vm_M) (o q k : Nat) : vm_M := (μ.1, vm_set μ.2.1 q (fun j => if j < k then μ.2.1 o j else μ.2.1 q j), μ.2.2)
/-- the memory is written -/
def vm_write (μ : vm_M) (i : Instr) (a b : Nat) (st st' : List Value) (μ' : vm_M) : Prop :=
  (∃ (x o : Nat) (v : Int32) (fl : List (Option (Option Nat))), i = .putfield x ∧ st = .int v :: .ref o :: st' ∧ μ.1 o = some (.inl (a, fl)) ∧ fl[b]? = some none ∧ μ' = vm_mI μ o b v) ∨
  (∃ (x o q : Nat) (w : Option Nat) (fl : List (Option (Option Nat))), i = .putfield x ∧ st = .ref q :: .ref o :: st' ∧ μ.1 o = some (.inl (a, fl)) ∧ fl[b]? = some (some w) ∧ μ' = vm_mS μ o (.inl (a, fl.set b (some (some q))))) ∨
  (∃ (j v : Int32) (o N : Nat), st = .int v :: .int j :: .ref o :: st' ∧ vp_in j N ∧
    ((i = .iastore ∧ μ.1 o = some (.inr (0, N))) ∨ (i = .castore ∧ μ.1 o = some (.inr (1, N)) ∧ vp_nar .char v = v) ∨ (i = .bastore ∧ μ.1 o = some (.inr (2, N)) ∧ vp_nar .boolean v = v)) ∧ μ' = vm_mI μ o j.toNatClampNeg v) ∨
  (∃ (j : Int32) (v : Int64) (o N : Nat), st = .long v :: .int j :: .ref o :: st' ∧ vp_in j N ∧ i = .lastore ∧ μ.1 o = some (.inr (3, N)) ∧ μ' = vm_mJ μ o j.toNatClampNeg v) ∨
  (∃ (j : Int32) (o N q : Nat) (fl : List (Option (Option Nat))), st = .ref q :: .int j :: .ref o :: st' ∧ vp_in j N ∧ i = .aastore ∧ μ.1 o = some (.inr (4, N)) ∧ μ.1 q = some (.inl (4, fl)) ∧ μ' = vm_mR μ o j.toNatClampNeg (some q)) ∨
  (∃ (x o q k n1 n2 : Nat), i = .invokestatic x ∧ a = 902 ∧ st = .int (nI k) :: .int 0 :: .ref q :: .int 0 :: .ref o :: st' ∧ (st'.map fun v => v.category).sum ≤ 8 ∧ k < 2 ^ 31 ∧ k ≤ n1 ∧ k ≤ n2 ∧ μ.1 o = some (.inr (0, n1)) ∧ μ.1 q = some (.inr (0, n2)) ∧ μ' = vm_cp μ o q k)
/-- the fields of a new object, by the class -/
def vm_fl : Nat → List (Option (Option Nat))
  | 0 => [some none, none, none]
  | 1 => [some none, some none, none, none, none]
  | 2 => [some none, none, none]
  | 3 => [some none, none]
  | 4 => [some none, some none, some none, some none, some none, none, none, none, none]
  | 5 => [some none, some none, some none, some none, some none, none, none]
  | 6 => [some none, some none, some none, some none, some none, some none, some none, some none]
  | 7 => [none, some none, some none, some none, some none, some none, some none, some none, none, some none, none, some none, none, some none, none, none, some none, none, some none, some none, some none, some none]
  | _ => []
/-- a new cell -/
def vm_nw (μ : vm_M) (s : vm_Sh) : vm_M := (vm_set μ.1 μ.2.2.2.2 (some s), vm_set μ.2.1 μ.2.2.2.2 (fun _ => 0), vm_set μ.2.2.1 μ.2.2.2.2 (fun _ => none), vm_set μ.2.2.2.1 μ.2.2.2.2 (fun _ => 0), μ.2.2.2.2 + 1)
/-- new int[N][K]: the rows behind the row of rows -/
def vm_nw2 (μ : vm_M) (N K : Nat) : vm_M :=
  ((fun x => if x = μ.2.2.2.2 then some (.inr (5, N)) else if μ.2.2.2.2 < x ∧ x ≤ μ.2.2.2.2 + N then some (.inr (0, K)) else μ.1 x),
   (fun x => if μ.2.2.2.2 ≤ x ∧ x ≤ μ.2.2.2.2 + N then (fun _ => 0) else μ.2.1 x),
   (fun x => if x = μ.2.2.2.2 then (fun i => if i < N then some (μ.2.2.2.2 + 1 + i) else none) else μ.2.2.1 x), μ.2.2.2.1, μ.2.2.2.2 + 1 + N)
def vm_alloc (μ : vm_M) (i : Instr) (a b c d : Nat) (st st' : List Value) (c' d' : Nat) (μ' : vm_M) : Prop :=
  (∃ x : Nat, i = .new x ∧ c = c' + 1 ∧ d = d' + b ∧ st' = .ref μ.2.2.2.2 :: st ∧ μ' = vm_nw μ (.inl (a, vm_fl a))) ∨
  (∃ (t : ArrayType) (k : Nat) (r : List Value), i = .newarray t ∧ a < 4 ∧ c = c' + 1 ∧ d = d' + k ∧ k ≤ 65536 ∧ st = .int (nI k) :: r ∧ st' = .ref μ.2.2.2.2 :: r ∧ μ' = vm_nw μ (.inr (a, k))) ∨
  (∃ (x k : Nat) (r : List Value), i = .anewarray x ∧ a = 4 ∧ c = c' + 1 ∧ d = d' + k ∧ k ≤ 65536 ∧ st = .int (nI k) :: r ∧ st' = .ref μ.2.2.2.2 :: r ∧ μ' = vm_nw μ (.inr (a, k))) ∨
  (∃ (x N K : Nat) (r : List Value), i = .multianewarray x 2 ∧ a = 5 ∧ c = c' + 1 + N ∧ d = d' + (N + N * K) ∧ N ≤ 65536 ∧ K ≤ 65536 ∧ st = .int (nI K) :: .int (nI N) :: r ∧ st' = .ref μ.2.2.2.2 :: r ∧ μ' = vm_nw2 μ N K)
def vm_next (E : vm_V) (i : Instr) (n a b : Nat) (kI : Int32) (kL : Int64) (σ σ' : vm_S) : Prop :=
  ∃ (p : Nat) (L st : List Value) (c d : Nat) (μ : vm_M), σ = (p, L, st, c, d, μ) ∧
   ((∃ st', σ' = (n, L, st', c, d, μ) ∧ (vm_pure i a kI kL st st' ∨ vm_load L i a st st' ∨ vm_read E μ i a b st st')) ∨
    (∃ n' st', σ' = (n', L, st', c, d, μ) ∧ vm_br p i a n st st' n') ∨
    (∃ L' st', σ' = (n, L', st', c, d, μ) ∧ vm_store L i a kI st st' L') ∨
    (∃ st' μ', σ' = (n, L, st', c, d, μ') ∧ vm_write μ i a b st st' μ') ∨
    (∃ st' c' d' μ', σ' = (n, L, st', c', d', μ') ∧ vm_alloc μ i a b c d st st' c' d' μ'))
abbrev vm_C : Type := Nat → List Value → Nat → Nat → vm_M → (Option Value → vm_M → Prop) → Prop
/-- a call: of method a with b arguments, its own object among them -/
def vm_call (C : vm_C) (X : vm_S → Prop) (i : Instr) (n a b : Nat) (σ : vm_S) : Prop :=
  ∃ (p : Nat) (L st : List Value) (c d mc ms : Nat) (μ : vm_M) (as : List Value) (Q' : Option Value → vm_M → Prop),
    σ = (p, L, as.reverse ++ st, c + mc, d + ms, μ) ∧ a < 900 ∧ as.length = b ∧ (st.map fun v => v.category).sum ≤ 8 ∧
    ((∃ (x o : Nat) (as' : List Value) (fl : List (Option (Option Nat))), i = .invokevirtual x ∧ as = .ref o :: as' ∧ μ.1 o = some (.inl (vm_mc a, fl))) ∨ (∃ x, i = .invokestatic x) ∨ (∃ (x o : Nat) (as' : List Value), i = .invokespecial x ∧ as = .ref o :: as')) ∧
    C a as mc ms μ Q' ∧ ∀ (v : Option Value) (μ' : vm_M), Q' v μ' → X (n, L, v.toList ++ st, c, d, μ')
/-- a return; b is 1 where the answer is a boolean -/
def vm_ret (Q : Option Value → vm_M → Prop) (i : Instr) (b : Nat) (σ : vm_S) : Prop :=
  ∃ (p : Nat) (L st : List Value) (c d : Nat) (μ : vm_M), σ = (p, L, st, c, d, μ) ∧
    ((∃ v : Int32, i = .ireturn ∧ st = [.int v] ∧ (b = 1 → v = 0 ∨ v = 1) ∧ Q (some (.int v)) μ) ∨ (i = .return_ ∧ st = [] ∧ Q none μ))
def vm_cl (E : vm_V) (C : vm_C) (k : List vm_E) (Q : Option Value → vm_M → Prop) (X : vm_S → Prop) (σ : vm_S) : Prop :=
  ∃ (p : Nat) (i : Instr) (n a b : Nat) (kI : Int32) (kL : Int64), vm_lk k σ.1 = some (p, i, n, a, b, kI, kL) ∧
    ((∃ σ', vm_next E i n a b kI kL σ σ' ∧ X σ') ∨ vm_call C X i n a b σ ∨ vm_ret Q i b σ)
/-- from this frame the code comes to its end, with Q: the least such -/
def vm_W (E : vm_V) (C : vm_C) (k : List vm_E) (Q : Option Value → vm_M → Prop) (σ : vm_S) : Prop :=
  ∀ X : vm_S → Prop, (∀ σ, vm_cl E C k Q X σ → X σ) → X σ
theorem vm_cl_mono {E : vm_V} {C C' : vm_C} {k : List vm_E} {Q : Option Value → vm_M → Prop} {X Y : vm_S → Prop} (hC : ∀ a as mc ms μ q, C a as mc ms μ q → C' a as mc ms μ q) (h : ∀ σ, X σ → Y σ) {σ : vm_S} (hc : vm_cl E C k Q X σ) : vm_cl E C' k Q Y σ := by
  obtain ⟨p, i, n, a, b, kI, kL, h1, h2⟩ := hc
  refine ⟨p, i, n, a, b, kI, kL, h1, ?_⟩
  rcases h2 with ⟨σ', h2, h3⟩ | h2 | h2
  · exact Or.inl ⟨σ', h2, h _ h3⟩
  · obtain ⟨p, L, st, c, d, mc, ms, μ, as, Q', e1, e2, e4, e5, e3, e6, e7⟩ := h2
    exact Or.inr (Or.inl ⟨p, L, st, c, d, mc, ms, μ, as, Q', e1, e2, e4, e5, e3, hC _ _ _ _ _ _ e6, fun v μ' q => h _ (e7 v μ' q)⟩)
  · exact Or.inr (Or.inr h2)
theorem vm_fold {E : vm_V} {C : vm_C} {k : List vm_E} {Q : Option Value → vm_M → Prop} {σ : vm_S} (h : vm_cl E C k Q (vm_W E C k Q) σ) : vm_W E C k Q σ :=
  fun X hX => hX σ (vm_cl_mono (fun _ _ _ _ _ _ q => q) (fun σ' q => q X hX) h)
theorem vm_W_mono {E : vm_V} {C C' : vm_C} {k : List vm_E} {Q : Option Value → vm_M → Prop} (hC : ∀ a as mc ms μ q, C a as mc ms μ q → C' a as mc ms μ q) {σ : vm_S} (h : vm_W E C k Q σ) : vm_W E C' k Q σ :=
  fun X hX => h X fun σ' q => hX σ' (vm_cl_mono hC (fun _ z => z) q)
theorem vm_lk_spec : ∀ {l : List vm_E} {pc : Nat} {e : vm_E}, vm_lk l pc = some e → e ∈ l ∧ e.1 = pc
  | [], _, _, h => by simp [vm_lk] at h
  | x :: r, pc, e, h => by
    unfold vm_lk at h
    cases hb : Nat.beq x.1 pc with
    | true =>
      rw [hb] at h
      cases h
      exact ⟨List.mem_cons_self, Nat.eq_of_beq_eq_true hb⟩
    | false =>
      rw [hb] at h
      obtain ⟨h1, h2⟩ := vm_lk_spec (l := r) h
      exact ⟨List.mem_cons_of_mem _ h1, h2⟩
/-- the locals at a method's start -/
def vm_sl : List Value → List Value
  | [] => []
  | .long x :: r => .long x :: .retAddr 0 :: vm_sl r
  | v :: r => v :: vm_sl r
def vm_isA : Value → Bool
  | .int _ => true
  | .long _ => true
  | .ref _ => true
  | _ => false
def vm_ent (M : Nat) (as : List Value) : List Value := vm_sl as ++ List.replicate (vm_mx M - (vm_sl as).length) (.retAddr 0)
/-- method M, called with these arguments in this memory, making at most mc cells of ms slots, calls at most d deep, ends with Q -/
def vm_Ex (E : vm_V) : Nat → vm_C
  | 0, _, _, _, _, _, _ => False
  | d + 1, M, as, mc, ms, μ, Q => M < 161 ∧ as.all vm_isA = true ∧ (vm_sl as).length ≤ vm_mx M ∧ vm_W E (vm_Ex E d) (vm_code M) Q (0, vm_ent M as, [], mc, ms, μ)
theorem vm_Ex_succ {E : vm_V} : ∀ {d : Nat} {M : Nat} {as : List Value} {mc ms : Nat} {μ : vm_M} {Q : Option Value → vm_M → Prop}, vm_Ex E d M as mc ms μ Q → vm_Ex E (d + 1) M as mc ms μ Q
  | 0, _, _, _, _, _, _, h => h.elim
  | _ + 1, _, _, _, _, _, _, h => ⟨h.1, h.2.1, h.2.2.1, vm_W_mono (fun _ _ _ _ _ _ q => vm_Ex_succ q) h.2.2.2⟩
theorem vm_Ex_le {E : vm_V} {d d' : Nat} (hd : d ≤ d') {M : Nat} {as : List Value} {mc ms : Nat} {μ : vm_M} {Q : Option Value → vm_M → Prop} (h : vm_Ex E d M as mc ms μ Q) : vm_Ex E d' M as mc ms μ Q := by
  induction d' with
  | zero =>
    obtain rfl : d = 0 := by omega
    exact h
  | succ n ih =>
    rcases Nat.lt_or_ge n d with q | q
    · obtain rfl : d = n + 1 := by omega
      exact h
    · exact vm_Ex_succ (ih q)
