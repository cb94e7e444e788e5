/-! The whole state: what the class and the reference both hold; the class's cells. -/
/-- town; past; kept; what was seen and heard; the text -/
abbrev vZ : Type := vt_T × (Nat × (Nat → vt_T)) × (Nat × (Nat → vt_T)) × vw_T × (Nat × (Nat → Nat))
def zT (z : vZ) : vt_T := z.1
def zp (z : vZ) : Nat := z.2.1.1
def zQ (z : vZ) : Nat → vt_T := z.2.1.2
def zk (z : vZ) : Nat := z.2.2.1.1
def zR (z : vZ) : Nat → vt_T := z.2.2.1.2
def zW (z : vZ) : vw_T := z.2.2.2.1
def zn (z : vZ) : Nat := z.2.2.2.2.1
def zx (z : vZ) : Nat → Nat := z.2.2.2.2.2
def nn (x : Int32) : Nat := x.toNatClampNeg
theorem nn_nI {j : Nat} (h : j < 2 ^ 31) : nn (nI j) = j := nI_clamp h
abbrev vix (x : Int32) (n : Nat) : Prop := 0 ≤ x ∧ x < nI n
/-- from 0 to a number -/
abbrev vrg (x : Int32) (n : Nat) : Prop := 0 ≤ x ∧ x ≤ nI n
theorem vrg_iff {x : Int32} {n : Nat} (hn : n < 2 ^ 31) : vrg x n ↔ ∃ j, j ≤ n ∧ x = nI j := by
  constructor
  · intro h
    obtain ⟨j, h1, rfl⟩ := nI_of (Int32.not_lt.mpr h.1)
    exact ⟨j, (nI_leI h1 hn).mp h.2, rfl⟩
  · rintro ⟨j, h1, rfl⟩
    exact ⟨nI_pos' (by omega), nI_le h1 hn⟩
theorem vix_iff {x : Int32} {n : Nat} (hn : n < 2 ^ 31) : vix x n ↔ ∃ j, j < n ∧ x = nI j := by
  constructor
  · intro h
    obtain ⟨j, h1, rfl⟩ := nI_of (Int32.not_lt.mpr h.1)
    exact ⟨j, (nI_ltI h1 hn).mp h.2, rfl⟩
  · rintro ⟨j, h1, rfl⟩
    exact v_ixt h1 hn
/-- what the two machines' shelves hold has the standing town's gates and persons, what was seen names persons that there are -/
def vsta (U T : vt_T) : Prop := U.1 = T.1 ∧ tK U = tK T ∧ tE U = tE T
def v_inv (z : vZ) : Prop := (0 < tG (zT z) ∧ 0 < tP (zT z)) ∧ (∀ j, j < zp z → vsta (zQ z j) (zT z)) ∧ (∀ j, j < zk z → vsta (zR z j) (zT z)) ∧ ∀ i, i < wN (zW z) → wP (zW z) i < tP (zT z)
def vxf (x : Nat) : List (Option (Option Nat)) := [some (some (x + 1)), some (some (x + 3)), some (some (x + 9)), some (some (x + 15)), some (some (x + 65)), some (some (x + 79)), some (some (x + 85)), some (some (x + 93))]
def vXS (μ : vm_M) (x : Nat) (z : vZ) : Prop := μ.1 x = some (.inl (6, vxf x)) ∧ (∃ a, vS μ (x + 1) (zx z) (zn z) a) ∧ vt_C μ (x + 3) (zT z) ∧ vs_T μ.1 (x + 9) ∧ (∃ f, vH μ (x + 15) 8 f (zp z) (zQ z)) ∧ (∃ f, vH μ (x + 65) 2 f (zk z) (zR z)) ∧ vW μ (x + 79) (zW z) ∧
  (vBs μ (x + 85) ∧ ∀ g, g < 5 → μ.2.1 (x + 87) g = 0) ∧ ∃ st, vL μ (x + 93) st
theorem vBs.keepx {μ μ' : vm_M} {b lo hi : Nat} (h : vBs μ b) (f : vx μ μ' lo hi) (hd : b + 7 < lo ∨ hi < b) : vBs μ' b := h.keep f.1 (f.2.2 _ (by omega)).2.1
theorem vL.keepx {μ μ' : vm_M} {l lo hi : Nat} {st : vl_T} (h : vL μ l st) (f : vx μ μ' lo hi) (hd : l + 2 < lo ∨ hi < l) : vL μ' l st := by
  obtain ⟨h1, h2, h3, h4, h5⟩ := h
  refine ⟨by rw [f.1]; exact h1, h2, by rw [(f.2.2 _ (by omega)).1]; exact h3, fun i hi => by rw [(f.2.2 _ (by omega)).1]; exact h4 i hi, fun c hc => by rw [(f.2.2 _ (by omega)).2.2]; exact h5 c hc⟩
theorem vs_T.keepx {μ μ' : vm_M} {t lo hi : Nat} (h : vs_T μ.1 t) (f : vx μ μ' lo hi) : vs_T μ'.1 t := by
  rw [f.1]
  exact h
section ST
variable {μ μ' : vm_M} {x : Nat} {z : vZ}
theorem vXS.keepx {lo hi : Nat} (h : vXS μ x z) (f : vx μ μ' lo hi) (hd : x + 95 < lo ∨ hi < x) : vXS μ' x z := by
  obtain ⟨h1, ⟨a, h2⟩, h3, h4, ⟨f5, h5⟩, ⟨f6, h6⟩, h7, ⟨h8, h8'⟩, ⟨st, h9⟩⟩ := h
  exact ⟨by rw [f.1]; exact h1, ⟨a, h2.keepx f (by omega)⟩, h3.keepx f (by omega), h4.keepx f, ⟨f5, h5.keepx f (by omega)⟩, ⟨f6, h6.keepx f (by omega)⟩, h7.keepx f (by omega), ⟨h8.keepx f (by omega), fun g hg => by rw [(f.2.2 _ (by omega)).1]; exact h8' g hg⟩, ⟨st, h9.keepx f (by omega)⟩⟩
/-- one part changes -/
theorem vXS.scr {n a : Nat} {y : Nat → Nat} (h : vXS μ x z) (f : vx μ μ' (x + 1) (x + 2)) (hn : vS μ' (x + 1) y n a) : vXS μ' x (zT z, (zp z, zQ z), (zk z, zR z), zW z, (n, y)) := by
  obtain ⟨h1, ⟨a, h2⟩, h3, h4, ⟨f5, h5⟩, ⟨f6, h6⟩, h7, ⟨h8, h8'⟩, ⟨st, h9⟩⟩ := h
  exact ⟨by rw [f.1]; exact h1, ⟨_, hn⟩, h3.keepx f (by omega), h4.keepx f, ⟨f5, h5.keepx f (by omega)⟩, ⟨f6, h6.keepx f (by omega)⟩, h7.keepx f (by omega), ⟨h8.keepx f (by omega), fun g hg => by rw [(f.2.2 _ (by omega)).1]; exact h8' g hg⟩, ⟨st, h9.keepx f (by omega)⟩⟩
theorem vXS.twn {T : vt_T} (h : vXS μ x z) (f : vx μ μ' (x + 3) (x + 8)) (hn : vt_C μ' (x + 3) T) : vXS μ' x (T, (zp z, zQ z), (zk z, zR z), zW z, (zn z, zx z)) := by
  obtain ⟨h1, ⟨a, h2⟩, h3, h4, ⟨f5, h5⟩, ⟨f6, h6⟩, h7, ⟨h8, h8'⟩, ⟨st, h9⟩⟩ := h
  exact ⟨by rw [f.1]; exact h1, ⟨a, h2.keepx f (by omega)⟩, hn, h4.keepx f, ⟨f5, h5.keepx f (by omega)⟩, ⟨f6, h6.keepx f (by omega)⟩, h7.keepx f (by omega), ⟨h8.keepx f (by omega), fun g hg => by rw [(f.2.2 _ (by omega)).1]; exact h8' g hg⟩, ⟨st, h9.keepx f (by omega)⟩⟩
theorem vXS.trl (h : vXS μ x z) (f : vx μ μ' (x + 9) (x + 14)) : vXS μ' x z := by
  obtain ⟨h1, ⟨a, h2⟩, h3, h4, ⟨f5, h5⟩, ⟨f6, h6⟩, h7, ⟨h8, h8'⟩, ⟨st, h9⟩⟩ := h
  exact ⟨by rw [f.1]; exact h1, ⟨a, h2.keepx f (by omega)⟩, h3.keepx f (by omega), h4.keepx f, ⟨f5, h5.keepx f (by omega)⟩, ⟨f6, h6.keepx f (by omega)⟩, h7.keepx f (by omega), ⟨h8.keepx f (by omega), fun g hg => by rw [(f.2.2 _ (by omega)).1]; exact h8' g hg⟩, ⟨st, h9.keepx f (by omega)⟩⟩
theorem vXS.pst {k : Nat} {Q : Nat → vt_T} {g : Nat → Nat} (h : vXS μ x z) (f : vx μ μ' (x + 15) (x + 64)) (hn : vH μ' (x + 15) 8 g k Q) : vXS μ' x (zT z, (k, Q), (zk z, zR z), zW z, (zn z, zx z)) := by
  obtain ⟨h1, ⟨a, h2⟩, h3, h4, ⟨f5, h5⟩, ⟨f6, h6⟩, h7, ⟨h8, h8'⟩, ⟨st, h9⟩⟩ := h
  exact ⟨by rw [f.1]; exact h1, ⟨a, h2.keepx f (by omega)⟩, h3.keepx f (by omega), h4.keepx f, ⟨_, hn⟩, ⟨f6, h6.keepx f (by omega)⟩, h7.keepx f (by omega), ⟨h8.keepx f (by omega), fun g hg => by rw [(f.2.2 _ (by omega)).1]; exact h8' g hg⟩, ⟨st, h9.keepx f (by omega)⟩⟩
theorem vXS.kpt {k : Nat} {Q : Nat → vt_T} {g : Nat → Nat} (h : vXS μ x z) (f : vx μ μ' (x + 65) (x + 78)) (hn : vH μ' (x + 65) 2 g k Q) : vXS μ' x (zT z, (zp z, zQ z), (k, Q), zW z, (zn z, zx z)) := by
  obtain ⟨h1, ⟨a, h2⟩, h3, h4, ⟨f5, h5⟩, ⟨f6, h6⟩, h7, ⟨h8, h8'⟩, ⟨st, h9⟩⟩ := h
  exact ⟨by rw [f.1]; exact h1, ⟨a, h2.keepx f (by omega)⟩, h3.keepx f (by omega), h4.keepx f, ⟨f5, h5.keepx f (by omega)⟩, ⟨_, hn⟩, h7.keepx f (by omega), ⟨h8.keepx f (by omega), fun g hg => by rw [(f.2.2 _ (by omega)).1]; exact h8' g hg⟩, ⟨st, h9.keepx f (by omega)⟩⟩
theorem vXS.wit {W : vw_T} (h : vXS μ x z) (f : vx μ μ' (x + 79) (x + 84)) (hn : vW μ' (x + 79) W) : vXS μ' x (zT z, (zp z, zQ z), (zk z, zR z), W, (zn z, zx z)) := by
  obtain ⟨h1, ⟨a, h2⟩, h3, h4, ⟨f5, h5⟩, ⟨f6, h6⟩, h7, ⟨h8, h8'⟩, ⟨st, h9⟩⟩ := h
  exact ⟨by rw [f.1]; exact h1, ⟨a, h2.keepx f (by omega)⟩, h3.keepx f (by omega), h4.keepx f, ⟨f5, h5.keepx f (by omega)⟩, ⟨f6, h6.keepx f (by omega)⟩, hn, ⟨h8.keepx f (by omega), fun g hg => by rw [(f.2.2 _ (by omega)).1]; exact h8' g hg⟩, ⟨st, h9.keepx f (by omega)⟩⟩
theorem vXS.bst (h : vXS μ x z) (f : vx μ μ' (x + 85) (x + 92)) (hr : μ'.2.2.1 (x + 86) = μ.2.2.1 (x + 86)) (hz : ∀ g, g < 5 → μ'.2.1 (x + 87) g = 0) : vXS μ' x z := by
  obtain ⟨h1, ⟨a, h2⟩, h3, h4, ⟨f5, h5⟩, ⟨f6, h6⟩, h7, ⟨h8, h8'⟩, ⟨st, h9⟩⟩ := h
  exact ⟨by rw [f.1]; exact h1, ⟨a, h2.keepx f (by omega)⟩, h3.keepx f (by omega), h4.keepx f, ⟨f5, h5.keepx f (by omega)⟩, ⟨f6, h6.keepx f (by omega)⟩, h7.keepx f (by omega), ⟨h8.keep f.1 hr, hz⟩, ⟨st, h9.keepx f (by omega)⟩⟩
theorem vXS.les {st : vl_T} (h : vXS μ x z) (f : vx μ μ' (x + 93) (x + 95)) (hn : vL μ' (x + 93) st) : vXS μ' x z := by
  obtain ⟨h1, ⟨a, h2⟩, h3, h4, ⟨f5, h5⟩, ⟨f6, h6⟩, h7, ⟨h8, h8'⟩, -⟩ := h
  exact ⟨by rw [f.1]; exact h1, ⟨a, h2.keepx f (by omega)⟩, h3.keepx f (by omega), h4.keepx f, ⟨f5, h5.keepx f (by omega)⟩, ⟨f6, h6.keepx f (by omega)⟩, h7.keepx f (by omega), ⟨h8.keepx f (by omega), fun g hg => by rw [(f.2.2 _ (by omega)).1]; exact h8' g hg⟩, ⟨st, hn⟩⟩
theorem vXS.r0 (h : vXS μ x z) : vm_gR μ x 6 0 (x + 1) := ⟨_, h.1, rfl⟩
theorem vXS.r1 (h : vXS μ x z) : vm_gR μ x 6 1 (x + 3) := ⟨_, h.1, rfl⟩
theorem vXS.r2 (h : vXS μ x z) : vm_gR μ x 6 2 (x + 9) := ⟨_, h.1, rfl⟩
theorem vXS.r3 (h : vXS μ x z) : vm_gR μ x 6 3 (x + 15) := ⟨_, h.1, rfl⟩
theorem vXS.r4 (h : vXS μ x z) : vm_gR μ x 6 4 (x + 65) := ⟨_, h.1, rfl⟩
theorem vXS.r5 (h : vXS μ x z) : vm_gR μ x 6 5 (x + 79) := ⟨_, h.1, rfl⟩
theorem vXS.r6 (h : vXS μ x z) : vm_gR μ x 6 6 (x + 85) := ⟨_, h.1, rfl⟩
theorem vXS.r7 (h : vXS μ x z) : vm_gR μ x 6 7 (x + 93) := ⟨_, h.1, rfl⟩
theorem vXS.ob (h : vXS μ x z) : vm_ob μ x 6 := ⟨_, h.1⟩
theorem vXS.t (h : vXS μ x z) : vt_C μ (x + 3) (zT z) := h.2.2.1
theorem vXS.w (h : vXS μ x z) : vW μ (x + 79) (zW z) := h.2.2.2.2.2.2.1
end ST
/-- a method's end: its answer, the state behind it; all else stays -/
def vPG (μ : vm_M) (x : Nat) (r : Int32 × vZ) : Option Value → vm_M → Prop := vm_PX (fun v μ' => v = r.1 ∧ vx μ μ' x (x + 95) ∧ vXS μ' x r.2)
theorem vPG.pure {μ : vm_M} {x : Nat} {z : vZ} {v w : Int32} (h : vXS μ x z) (e : w = v) : vPG μ x (v, z) (some (.int w)) μ := ⟨w, rfl, e, vx.rf, h⟩
/-! what the methods answer -/
def vmask (p : Nat → Bool) : Nat → Nat
  | 0 => 0
  | n + 1 => if p n = true then vmask p n ||| 2 ^ n else vmask p n
theorem vmask_s (p : Nat → Bool) (n : Nat) : vmask p (n + 1) = if p n = true then vmask p n ||| 2 ^ n else vmask p n := rfl
def o_write (z : vZ) (c : Int32) : Int32 × vZ := if 32 ≤ c ∧ c ≤ 126 then (if zn z < 200 then (nI (zn z + 1), (zT z, (zp z, zQ z), (zk z, zR z), zW z, (zn z + 1, vu (zx z) (zn z) (nn c)))) else (-3, z)) else (-1, z)
def o_wipe (z : vZ) : Int32 × vZ := (nI (zn z), (zT z, (zp z, zQ z), (zk z, zR z), zW z, (0, zx z)))
def zA (z : vZ) : Option Nat × vt_T := pA (zx z) (zn z) 200 vt0 0
def o_fault (z : vZ) : Int32 × vZ := (pZ (zA z).1, z)
def o_lay (z : vZ) : Int32 × vZ := if (zA z).1 = none ∧ 0 < tG (zA z).2 ∧ 0 < tP (zA z).2 then (nI (tP (zA z).2), ((zA z).2, (0, zQ z), (0, zR z), vw0 (zW z), (zn z, zx z))) else (-2, z)
def o_gate (z : vZ) (g w : Int32) : Int32 × vZ := (if vix g (tG (zT z)) ∧ vrg w 6 then (if nn w = 5 then nI (tK (zT z) (nn g)) else if nn w = 6 then nI (tE (zT z) (nn g)) else nI (vd (tA (zT z) (nn g)) (nn w))) else -1, z)
def o_person (z : vZ) (p w : Int32) : Int32 × vZ := (if vix p (tP (zT z)) ∧ vrg w 5 then (if nn w = 5 then tH (zT z) (nn p) else nI (vd (tB (zT z) (nn p)) (nn w))) else -1, z)
def o_far (z : vZ) (p g : Int32) : Int32 × vZ := (if vix p (tP (zT z)) ∧ vix g (tG (zT z)) then nI (vdn (tK (zT z) (nn g)) (tB (zT z) (nn p)) (tA (zT z) (nn g)) 5) else -1, z)
def zput (z : vZ) (T : vt_T) : vZ := (T, (vpuh 8 (zp z), vput 8 (zp z) (zQ z) (zT z)), (zk z, zR z), zW z, (zn z, zx z))
def o_ask (z : vZ) (p g : Int32) : Int32 × vZ := if vix p (tP (zT z)) ∧ vix g (tG (zT z)) then (vm_bi (vadm (zT z) (tB (zT z) (nn p)) (nn g)), zput z (vvis (zT z) (nn p) (nn g))) else (-1, z)
def o_talk (z : vZ) (p q : Int32) : Int32 × vZ := if vix p (tP (zT z)) ∧ vix q (tP (zT z)) ∧ ¬ p = q then
    (if vfd (vd (tB (zT z) (nn p))) (vd (tB (zT z) (nn q))) < 5 then (nI (vfd (vd (tB (zT z) (nn p))) (vd (tB (zT z) (nn q)))), zput z (vcon (zT z) (nn p) (nn q))) else (-2, z)) else (-1, z)
def o_listen (z : vZ) (g q : Int32) : Int32 × vZ := if vix g (tG (zT z)) ∧ vix q (tG (zT z)) ∧ ¬ g = q then
    (if vfd (vd (tA (zT z) (nn g))) (vd (tA (zT z) (nn q))) < 5 then (nI (vfd (vd (tA (zT z) (nn g))) (vd (tA (zT z) (nn q)))), zput z (vlis (zT z) (nn g) (nn q))) else (-2, z)) else (-1, z)
def o_undo (z : vZ) : Int32 × vZ := if 0 < zp z then (nI (zp z - 1), (zQ z (zp z - 1), (zp z - 1, zQ z), (zk z, zR z), zW z, (zn z, zx z))) else (-2, z)
def o_opens (z : vZ) (p : Int32) : Int32 × vZ := (if vix p (tP (zT z)) then nI (vmask (fun g => decide (vadm (zT z) (tB (zT z) (nn p)) g)) (tG (zT z))) else -1, z)
def o_best (z : vZ) (k : Int32) : Int32 × vZ := (if -1 ≤ k ∧ k ≤ 4 then (if k = -1 then nI (vbf (zT z) 7776).1 else nI (vd (cd6 5 (vbf (zT z) 7776).2) (nn k))) else -1, z)
def vmt (T : vt_T) (n : Nat) : Nat := fb_sm (fun k => vft T k (vmd T k 5) (tG T)) n
def o_middle (z : vZ) (k : Int32) : Int32 × vZ := (if -1 ≤ k ∧ k ≤ 4 then (if k < 0 then nI (vmt (zT z) 5) else nI (vmd (zT z) (nn k) 5)) else -1, z)
def o_lessons (z : vZ) (p g w : Int32) : Int32 × vZ := (if vix p (tP (zT z)) ∧ vix g (tG (zT z)) ∧ vrg w 1 then (if nn w = 0 then vl0 (zT z) (nn p) (nn g) else vl1 (zT z) (nn p) (nn g)) else -1, z)
def vdif (T : vt_T) (m : Nat) : Bool := (List.range (tG T)).all fun g => (List.range g).all fun q => !decide (tA T g &&& vbm m 5 = tA T q &&& vbm m 5)
theorem vdif_iff {T : vt_T} {m : Nat} : vdif T m = true ↔ ∀ g, g < tG T → ∀ q, q < g → vpt T m g q := by
  unfold vdif vpt
  simp only [List.all_eq_true, List.mem_range, Bool.not_eq_true', decide_eq_false_iff_not]
/-- the first of the first n sets with fewest places that tell all gates apart (32: none), and how many places -/
def vap (T : vt_T) : Nat → Nat × Nat
  | 0 => (32, 6)
  | n + 1 => if vbc n < (vap T n).2 ∧ vdif T n = true then (n, vbc n) else vap T n
theorem vap_s (T : vt_T) (n : Nat) : vap T (n + 1) = if vbc n < (vap T n).2 ∧ vdif T n = true then (n, vbc n) else vap T n := rfl
def o_apart (z : vZ) (w : Int32) : Int32 × vZ := (if vrg w 1 then (if (vap (zT z) 32).1 = 32 then -4 else if nn w = 1 then nI (vap (zT z) 32).1 else nI (vap (zT z) 32).2) else -1, z)
def vcrs (p g h : Nat) : Nat → Nat → vt_T → Int32
  | 0, a, T => if tA T g = tA T h then nI a else -4
  | f + 1, a, T => if tA T g = tA T h then nI a else if vadm T (tB T p) (if a % 2 = 0 then g else h) then vcrs p g h f (a + 1) (vvis T p (if a % 2 = 0 then g else h)) else -4
theorem vcrs_s (p g h f a : Nat) (T : vt_T) : vcrs p g h (f + 1) a T = if tA T g = tA T h then nI a else if vadm T (tB T p) (if a % 2 = 0 then g else h) then vcrs p g h f (a + 1) (vvis T p (if a % 2 = 0 then g else h)) else -4 := rfl
def o_crosses (z : vZ) (p g h : Int32) : Int32 × vZ := (if vix p (tP (zT z)) ∧ vix g (tG (zT z)) ∧ vix h (tG (zT z)) ∧ ¬ g = h then vcrs (nn p) (nn g) (nn h) 60 0 (zT z) else -1, z)
def zw (z : vZ) (W : vw_T) : vZ := (zT z, (zp z, zQ z), (zk z, zR z), W, (zn z, zx z))
def o_seen (z : vZ) (p g i : Int32) : Int32 × vZ := if vix p (tP (zT z)) ∧ vix g (tG (zT z)) ∧ vrg i 1 then (if wN (zW z) < 6 then (nI (wN (zW z) + 1), zw z (vwsee (zW z) (nn p) (nn g) (nn i))) else (-3, z)) else (-1, z)
def o_kinds (z : vZ) (g : Int32) : Int32 × vZ := (if vix g (tG (zT z)) then nI (vmask (fun kd => vfit (zW z) (zT z) (nn g) kd (tE (zT z) (nn g)) (wN (zW z))) 4) else -1, z)
def vear (z : vZ) (g e : Nat) : Bool := vfit (zW z) (zT z) g (tK (zT z) g) e (wN (zW z))
/-- of the ears from n to 40: how many fit, the least that fits -/
def vec (z : vZ) (g : Nat) : Nat → Nat × Int32
  | 0 => (0, -4)
  | n + 1 => if vear z g (40 - n) = true then ((vec z g n).1 + 1, nI (40 - n)) else vec z g n
theorem vec_s (z : vZ) (g n : Nat) : vec z g (n + 1) = if vear z g (40 - n) = true then ((vec z g n).1 + 1, nI (40 - n)) else vec z g n := rfl
def o_ears (z : vZ) (g w : Int32) : Int32 × vZ := (if vix g (tG (zT z)) ∧ vrg w 1 then (if nn w = 0 then nI (vec z (nn g) 41).1 else (vec z (nn g) 41).2) else -1, z)
def o_heard (z : vZ) (k s : Int32) : Int32 × vZ := if vrg k 4 ∧ vrg s 5 then (if wM (zW z) < 8 then (nI (wM (zW z) + 1), zw z (vwhea (zW z) (nn k) (nn s))) else (-3, z)) else (-1, z)
def vmi (z : vZ) (g : Nat) : Nat := vmis (zW z) (tA (zT z) g) (wM (zW z))
def o_from (z : vZ) : Int32 × vZ := (nI (vmask (fun g => decide (vmi z g = 0)) (tG (zT z))), z)
def vne (z : vZ) : Nat → Nat × Nat
  | 0 => (0, 9)
  | n + 1 => if vmi z n < (vne z n).2 then (n, vmi z n) else vne z n
theorem vne_s (z : vZ) (n : Nat) : vne z (n + 1) = if vmi z n < (vne z n).2 then (n, vmi z n) else vne z n := rfl
def o_nearest (z : vZ) (w : Int32) : Int32 × vZ := (if vrg w 1 then (if nn w = 0 then nI (vne z (tG (zT z))).1 else nI (vne z (tG (zT z))).2) else -1, z)
def o_forget (z : vZ) : Int32 × vZ := (nI (wN (zW z) + wM (zW z)), zw z (vw0 (zW z)))
def vab5 (T : vt_T) (p g x n : Nat) : Nat := fb_sm (fun m => if vadm T (vms (tB T p) m 5) g then vch m x 5 else 0) n
def o_likely (z : vZ) (p g x w : Int32) : Int32 × vZ := (if vix p (tP (zT z)) ∧ vix g (tG (zT z)) ∧ vrg x 10 ∧ vrg w 1 then
    nI ((if nn w = 0 then vab5 (zT z) (nn p) (nn g) (nn x) 32 else 100000) / Nat.gcd (vab5 (zT z) (nn p) (nn g) (nn x) 32) 100000) else -1, z)
def vyr (T : vt_T) (s : Nat) : Nat → vt_T
  | 0 => T
  | n + 1 => vlive (vyr T s n) (vdr s n)
theorem vyr_s (T : vt_T) (s n : Nat) : vyr T s (n + 1) = vlive (vyr T s n) (vdr s n) := rfl
def o_year (z : vZ) (s n w : Int32) : Int32 × vZ := (if vrg s 9999 ∧ (1 ≤ n ∧ n ≤ 60) ∧ vrg w 2 then
    (if nn w = 0 then tI (vyr (zT z) (nn s) (nn n)) - tI (zT z) else if nn w = 1 then tO (vyr (zT z) (nn s) (nn n)) - tO (zT z) else nI (vst (vyr (zT z) (nn s) (nn n)) (tP (zT z)))) else -1, z)
def o_keep (z : vZ) : Int32 × vZ := if zk z < 2 then (nI (zk z + 1), (zT z, (zp z, zQ z), (zk z + 1, vu (zR z) (zk z) (zT z)), zW z, (zn z, zx z))) else (-3, z)
def o_back (z : vZ) : Int32 × vZ := if 0 < zk z then (nI (zk z - 1), (zR z (zk z - 1), (0, zQ z), (zk z - 1, zR z), zW z, (zn z, zx z))) else (-2, z)
def o_count (z : vZ) (w : Int32) : Int32 × vZ := (if w = 0 then nI (tG (zT z)) else if w = 1 then nI (tP (zT z)) else if w = 2 then tI (zT z) else if w = 3 then tO (zT z) else if w = 4 then nI (vst (zT z) (tP (zT z))) else if w = 5 then nI (wN (zW z)) else if w = 6 then nI (wM (zW z)) else if w = 7 then nI (zp z) else if w = 8 then nI (zk z) else if w = 9 then nI (zn z) else -1, z)
