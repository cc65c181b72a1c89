/-! THE MEMORY'S ROWS: small numbers, kinds and lengths, reads behind writes -/
/-- a small number as an int -/
def N (n : Nat) : Int32 := Int32.ofNat n
def NEG : Int32 := -1
/-- a place, or none -/
def pl : Option Nat → Int32
  | none => NEG
  | some n => N n
theorem N_toInt {a : Nat} (h : a < 2147483648) : (N a).toInt = (a : Int) := Int32.toInt_ofNat_small (by omega)
theorem N_lit (k : Nat) : (OfNat.ofNat k : Int32) = N (OfNat.ofNat k) := rfl
theorem NEG_eq : -(N 1) = NEG := rfl
theorem NEG_toInt : NEG.toInt = -1 := by decide
theorem pl_none : pl none = NEG := rfl
theorem pl_some (n : Nat) : pl (some n) = N n := rfl
theorem N_add (a b : Nat) : N a + N b = N (a + b) := (Int32.ofNat_add a b).symm
theorem N_mul (a b : Nat) : N a * N b = N (a * b) := (Int32.ofNat_mul a b).symm
theorem N_sub {a b : Nat} (h : b ≤ a) : N a - N b = N (a - b) := by
  have e := N_add (a - b) b
  rw [show a - b + b = a by omega] at e
  rw [← e, Int32.add_sub_cancel]
theorem N_lt {a b : Nat} (ha : a < 2147483648) (hb : b < 2147483648) : (N a < N b) = (a < b) := by
  rw [Int32.lt_iff_toInt_lt, N_toInt ha, N_toInt hb]
  exact propext ⟨fun h => by omega, fun h => by omega⟩
theorem N_le {a b : Nat} (ha : a < 2147483648) (hb : b < 2147483648) : (N a ≤ N b) = (a ≤ b) := by
  rw [Int32.le_iff_toInt_le, N_toInt ha, N_toInt hb]
  exact propext ⟨fun h => by omega, fun h => by omega⟩
theorem N_inj {a b : Nat} (ha : a < 2147483648) (hb : b < 2147483648) : (N a = N b) = (a = b) := by
  refine propext ⟨fun h => ?_, fun h => by rw [h]⟩
  have h2 := congrArg Int32.toInt h
  rw [N_toInt ha, N_toInt hb] at h2
  omega
theorem N_NEG {a : Nat} (ha : a < 2147483648) : (N a = NEG) = False := by
  refine propext ⟨fun h => ?_, fun h => h.elim⟩
  have h2 := congrArg Int32.toInt h
  rw [N_toInt ha, NEG_toInt] at h2
  omega
theorem NEG_N {a : Nat} (ha : a < 2147483648) : (NEG = N a) = False := by
  refine propext ⟨fun h => ?_, fun h => h.elim⟩
  rw [eq_comm, N_NEG ha] at h
  exact h
theorem NEG_lt {a : Nat} (ha : a < 2147483648) : (NEG < N a) = True := by
  rw [Int32.lt_iff_toInt_lt, N_toInt ha, NEG_toInt]
  exact eq_true (by omega)
theorem lt_NEG {a : Nat} (ha : a < 2147483648) : (N a < NEG) = False := by
  rw [Int32.lt_iff_toInt_lt, N_toInt ha, NEG_toInt]
  exact eq_false (by omega)
theorem N_nat {a : Nat} (ha : a < 2147483648) : (N a).toNatClampNeg = a := by
  show (N a).toInt.toNat = a
  rw [N_toInt ha]; rfl
theorem jinb_N {a n : Nat} (ha : a < 2147483648) : jinb (N a) n = decide (a < n) := by
  have h0 : ¬ N a < 0 := by
    rw [show (0 : Int32) = N 0 from rfl, N_lt ha (by omega)]; omega
  unfold jinb
  rw [decide_eq_false h0, N_nat ha, Bool.false_or]
  by_cases h : a < n
  · rw [decide_eq_true h]
    cases e : Nat.ble n a with
    | true => have := Nat.le_of_ble_eq_true e; omega
    | false => rfl
  · rw [decide_eq_false h, Nat.ble_eq_true_of_le (Nat.le_of_not_lt h)]; rfl
theorem jinb_NEG {n : Nat} : jinb NEG n = false := rfl
/-- a number that is not below 0 is a small one -/
theorem N_of {x : Int32} (h : ¬ x < N 0) : ∃ a, a < 2147483648 ∧ x = N a := by
  have h1 : (0 : Int) ≤ x.toInt := by
    have h2 : ¬ x.toInt < (0 : Int) := fun g => h (Int32.lt_iff_toInt_lt.mpr g)
    omega
  have h3 := Int32.toInt_lt x
  refine ⟨x.toInt.toNat, by omega, Int32.toInt_inj.mp ?_⟩
  rw [N_toInt (by omega)]
  omega
-- kinds and lengths
def jk (μ : jM) (a : Nat) : Nat := ((jty μ a).map (·.1)).getD 99
def jl (μ : jM) (a : Nat) : Nat := ((jty μ a).map (·.2)).getD 0
section MEM
variable {μ : jM} {a b k j sl n : Nat} {x i v : Int32} {r : Option Nat} {w : Value}
theorem jk_of {q : Nat × Nat} (h : jty μ a = some q) : jk μ a = q.1 := by unfold jk; rw [h]; rfl
theorem jl_of {q : Nat × Nat} (h : jty μ a = some q) : jl μ a = q.2 := by unfold jl; rw [h]; rfl
theorem jt_of (h : jk μ a = k) (hk : k ≠ 99) : jty μ a = some (k, jl μ a) := by
  unfold jk at h
  unfold jl
  cases e : jty μ a with
  | none => rw [e] at h; exact absurd h.symm hk
  | some q => rw [e] at h; obtain ⟨k', n⟩ := q; have h : k' = k := h; subst h; rfl
theorem gI_eq (hk : k ≠ 99) : jgI μ k sl (.ref a) = if jk μ a = k ∨ (jk μ a = 40 ∧ k = 0 ∧ sl = 1) then some (jiv μ a sl) else none := by
  unfold jgI jk
  show ((jty μ a).map _).bind _ = _
  cases e : jty μ a with
  | none =>
    rw [if_neg]
    · rfl
    · rintro (h | ⟨h, -⟩)
      · exact hk h.symm
      · exact absurd h (by decide)
  | some q => rfl
theorem gR_eq (hk : k ≠ 99) : jgR μ k sl (.ref a) = if jk μ a = k ∨ (jk μ a = 40 ∧ k = 0 ∧ sl = 0) then some (va_rf (jrv μ a sl)) else none := by
  unfold jgR jk
  show ((jty μ a).map _).bind _ = _
  cases e : jty μ a with
  | none =>
    rw [if_neg]
    · rfl
    · rintro (h | ⟨h, -⟩)
      · exact hk h.symm
      · exact absurd h (by decide)
  | some q => rfl
theorem pI_eq {tc : Nat} (hk : k ≠ 99) : jpI μ k sl tc (.ref a) x = if jk μ a = k ∧ jfit tc x = true then some (jsetI μ a sl x) else none := by
  unfold jpI jk
  show ((jty μ a).map _).bind _ = _
  cases e : jty μ a with
  | none => rw [if_neg (fun h => hk h.1.symm)]; rfl
  | some q => rfl
theorem pR_eq (hk : k ≠ 99) : jpR μ k sl (.ref a) w = if jk μ a = k ∧ jisref w = true then some (jsetR μ a sl (jun w)) else none := by
  unfold jpR jk
  show ((jty μ a).map _).bind _ = _
  cases e : jty μ a with
  | none => rw [if_neg (fun h => hk h.1.symm)]; rfl
  | some q => rfl
theorem jfit0 : jfit 0 x = true := rfl
theorem jfit2_0 : jfit 2 (N 0) = true := rfl
theorem jfit2_1 : jfit 2 (N 1) = true := rfl
theorem aI_eq : jaI μ (.ref a) i = if (jk μ a = 20 ∨ jk μ a = 42) ∧ jinb i (jl μ a) = true then some (jiv μ a i.toNatClampNeg) else none := by
  unfold jaI jk jl
  show ((jty μ a).map _).bind _ = _
  cases e : jty μ a with
  | none => rw [if_neg (fun h => absurd h.1 (by decide))]; rfl
  | some q => rfl
theorem aB_eq : jaB μ (.ref a) i = if (jk μ a = 21 ∨ jk μ a = 22 ∨ jk μ a = 41) ∧ jinb i (jl μ a) = true then some (jiv μ a i.toNatClampNeg) else none := by
  unfold jaB jk jl
  show ((jty μ a).map _).bind _ = _
  cases e : jty μ a with
  | none => rw [if_neg (fun h => absurd h.1 (by decide))]; rfl
  | some q => rfl
theorem aR_eq : jaR μ (.ref a) i = if (30 ≤ jk μ a ∧ jk μ a < 36) ∧ jinb i (jl μ a) = true then some (va_rf (jrv μ a i.toNatClampNeg)) else none := by
  unfold jaR jk jl
  show ((jty μ a).map _).bind _ = _
  cases e : jty μ a with
  | none => rw [if_neg (fun h => absurd h.1 (by decide))]; rfl
  | some q => rfl
theorem sI_eq : jsI μ (.ref a) i x = if jk μ a = 20 ∧ jinb i (jl μ a) = true then some (jsetI μ a i.toNatClampNeg x) else none := by
  unfold jsI jk jl
  show ((jty μ a).map _).bind _ = _
  cases e : jty μ a with
  | none => rw [if_neg (fun h => absurd h.1 (by decide))]; rfl
  | some q => rfl
theorem sB_eq : jsB μ (.ref a) i x = if jk μ a = 22 ∧ jinb i (jl μ a) = true then some (jsetI μ a i.toNatClampNeg x.toInt8.toInt32) else if jk μ a = 21 ∧ jinb i (jl μ a) = true ∧ (x = 0 ∨ x = 1) then some (jsetI μ a i.toNatClampNeg x) else none := by
  unfold jsB jk jl
  show ((jty μ a).map _).bind _ = _
  cases e : jty μ a with
  | none => rw [if_neg (fun h => absurd h.1 (by decide)), if_neg (fun h => absurd h.1 (by decide))]; rfl
  | some q => rfl
theorem sR_eq : jsR μ (.ref a) i w = if (30 ≤ jk μ a ∧ jk μ a < 36) ∧ jinb i (jl μ a) = true ∧ jokel μ (jk μ a) w = true then some (jsetR μ a i.toNatClampNeg (jun w)) else none := by
  unfold jsR jk jl
  show ((jty μ a).map _).bind _ = _
  cases e : jty μ a with
  | none => rw [if_neg (fun h => absurd h.1.2 (by decide))]; rfl
  | some q => rfl
theorem alen_of (h : jk μ a = k) (hk : 20 ≤ k ∧ k ≠ 40 ∧ k ≠ 99) : jal μ (.ref a) = some (N (jl μ a)) := by
  unfold jal
  show ((jty μ a).map _).bind _ = _
  rw [jt_of h hk.2.2]
  show (if _ then _ else _) = _
  rw [if_pos ⟨hk.1, hk.2.1⟩]; rfl
theorem jokel_null : jokel μ k .null = true := rfl
theorem jokel_ref : jokel μ k (.ref b) = (jty μ b).any fun q => q.1 == jel k := rfl
theorem recv_eq (hk : k ≠ 99 ∧ k ≠ 0) : jrecv μ k (.ref a) = decide (jk μ a = k) := by
  unfold jk
  show (jty μ a).any _ = _
  cases e : jty μ a with
  | none => rw [decide_eq_false (fun h => hk.1 h.symm)]; rfl
  | some q =>
    show (q.1 == k || (q.1 == 40 && k == 0)) = decide (q.1 = k)
    rw [show (k == 0) = false from by simpa using hk.2, Bool.and_false, Bool.or_false]
    rfl
-- reads behind writes
theorem ty_setI : jty (jsetI μ a k v) = jty μ := rfl
theorem ty_setR : jty (jsetR μ a k r) = jty μ := rfl
theorem ty_rowI {f : Nat → Int32} : jty (jrowI μ a f) = jty μ := rfl
theorem ty_rowR {f : Nat → Option Nat} : jty (jrowR μ a f) = jty μ := rfl
theorem jk_setI : jk (jsetI μ a k v) = jk μ := rfl
theorem jk_setR : jk (jsetR μ a k r) = jk μ := rfl
theorem jk_rowI {f : Nat → Int32} : jk (jrowI μ a f) = jk μ := rfl
theorem jk_rowR {f : Nat → Option Nat} : jk (jrowR μ a f) = jk μ := rfl
theorem jl_setI : jl (jsetI μ a k v) = jl μ := rfl
theorem jl_setR : jl (jsetR μ a k r) = jl μ := rfl
theorem jl_rowI {f : Nat → Int32} : jl (jrowI μ a f) = jl μ := rfl
theorem jl_rowR {f : Nat → Option Nat} : jl (jrowR μ a f) = jl μ := rfl
theorem sz_setI : jsz (jsetI μ a k v) = jsz μ := rfl
theorem sz_setR : jsz (jsetR μ a k r) = jsz μ := rfl
theorem sz_rowI {f : Nat → Int32} : jsz (jrowI μ a f) = jsz μ := rfl
theorem sz_rowR {f : Nat → Option Nat} : jsz (jrowR μ a f) = jsz μ := rfl
theorem ext_setI : jext (jsetI μ a k v) = jext μ := rfl
theorem ext_setR : jext (jsetR μ a k r) = jext μ := rfl
theorem iv_setI : jiv (jsetI μ a k v) b j = if b = a ∧ j = k then v else jiv μ b j := rfl
theorem iv_setR : jiv (jsetR μ a k r) = jiv μ := rfl
theorem iv_rowI {f : Nat → Int32} : jiv (jrowI μ a f) b j = if b = a then f j else jiv μ b j := rfl
theorem iv_rowR {f : Nat → Option Nat} : jiv (jrowR μ a f) = jiv μ := rfl
theorem rv_setR : jrv (jsetR μ a k r) b j = if b = a ∧ j = k then r else jrv μ b j := rfl
theorem rv_setI : jrv (jsetI μ a k v) = jrv μ := rfl
theorem rv_rowI {f : Nat → Int32} : jrv (jrowI μ a f) = jrv μ := rfl
theorem rv_rowR {f : Nat → Option Nat} : jrv (jrowR μ a f) b j = if b = a then f j else jrv μ b j := rfl
end MEM
theorem rf_some (a : Nat) : va_rf (some a) = .ref a := rfl
theorem rf_none : va_rf none = .null := rfl
theorem jun_ref (a : Nat) : jun (.ref a) = some a := rfl
theorem jun_null : jun .null = none := rfl
theorem gI0 {μ : jM} {a sl : Nat} : jgI μ 0 sl (.ref a) = if jk μ a = 0 ∨ (jk μ a = 40 ∧ sl = 1) then some (jiv μ a sl) else none := by rw [gI_eq (by decide)]; simp only [true_and]
theorem gR0 {μ : jM} {a sl : Nat} : jgR μ 0 sl (.ref a) = if jk μ a = 0 ∨ (jk μ a = 40 ∧ sl = 0) then some (va_rf (jrv μ a sl)) else none := by rw [gR_eq (by decide)]; simp only [true_and]
theorem rv0 {μ : jM} {a : Nat} : jrecv μ 0 (.ref a) = decide (jk μ a = 0 ∨ jk μ a = 40) := by
  unfold jk
  show (jty μ a).any _ = _
  cases e : jty μ a with
  | none => rfl
  | some q => show (q.1 == 0 || (q.1 == 40 && (0 : Nat) == 0)) = decide (q.1 = 0 ∨ q.1 = 40); simp [Bool.decide_or]; rfl
theorem pI0 {μ : jM} {a sl tc : Nat} {x : Int32} : jpI μ 0 sl tc (.ref a) x = if jk μ a = 0 ∧ jfit tc x = true then some (jsetI μ a sl x) else none := pI_eq (by decide)
theorem pR0 {μ : jM} {a sl : Nat} {w : Value} : jpR μ 0 sl (.ref a) w = if jk μ a = 0 ∧ jisref w = true then some (jsetR μ a sl (jun w)) else none := pR_eq (by decide)
theorem gI1 {μ : jM} {a sl : Nat} : jgI μ 1 sl (.ref a) = if jk μ a = 1 then some (jiv μ a sl) else none := by rw [gI_eq (by decide)]; simp
theorem gR1 {μ : jM} {a sl : Nat} : jgR μ 1 sl (.ref a) = if jk μ a = 1 then some (va_rf (jrv μ a sl)) else none := by rw [gR_eq (by decide)]; simp
theorem rv1 {μ : jM} {a : Nat} : jrecv μ 1 (.ref a) = decide (jk μ a = 1) := recv_eq (by decide)
theorem pI1 {μ : jM} {a sl tc : Nat} {x : Int32} : jpI μ 1 sl tc (.ref a) x = if jk μ a = 1 ∧ jfit tc x = true then some (jsetI μ a sl x) else none := pI_eq (by decide)
theorem pR1 {μ : jM} {a sl : Nat} {w : Value} : jpR μ 1 sl (.ref a) w = if jk μ a = 1 ∧ jisref w = true then some (jsetR μ a sl (jun w)) else none := pR_eq (by decide)
theorem gI2 {μ : jM} {a sl : Nat} : jgI μ 2 sl (.ref a) = if jk μ a = 2 then some (jiv μ a sl) else none := by rw [gI_eq (by decide)]; simp
theorem gR2 {μ : jM} {a sl : Nat} : jgR μ 2 sl (.ref a) = if jk μ a = 2 then some (va_rf (jrv μ a sl)) else none := by rw [gR_eq (by decide)]; simp
theorem rv2 {μ : jM} {a : Nat} : jrecv μ 2 (.ref a) = decide (jk μ a = 2) := recv_eq (by decide)
theorem pI2 {μ : jM} {a sl tc : Nat} {x : Int32} : jpI μ 2 sl tc (.ref a) x = if jk μ a = 2 ∧ jfit tc x = true then some (jsetI μ a sl x) else none := pI_eq (by decide)
theorem pR2 {μ : jM} {a sl : Nat} {w : Value} : jpR μ 2 sl (.ref a) w = if jk μ a = 2 ∧ jisref w = true then some (jsetR μ a sl (jun w)) else none := pR_eq (by decide)
theorem gI3 {μ : jM} {a sl : Nat} : jgI μ 3 sl (.ref a) = if jk μ a = 3 then some (jiv μ a sl) else none := by rw [gI_eq (by decide)]; simp
theorem gR3 {μ : jM} {a sl : Nat} : jgR μ 3 sl (.ref a) = if jk μ a = 3 then some (va_rf (jrv μ a sl)) else none := by rw [gR_eq (by decide)]; simp
theorem rv3 {μ : jM} {a : Nat} : jrecv μ 3 (.ref a) = decide (jk μ a = 3) := recv_eq (by decide)
theorem pI3 {μ : jM} {a sl tc : Nat} {x : Int32} : jpI μ 3 sl tc (.ref a) x = if jk μ a = 3 ∧ jfit tc x = true then some (jsetI μ a sl x) else none := pI_eq (by decide)
theorem pR3 {μ : jM} {a sl : Nat} {w : Value} : jpR μ 3 sl (.ref a) w = if jk μ a = 3 ∧ jisref w = true then some (jsetR μ a sl (jun w)) else none := pR_eq (by decide)
theorem gI4 {μ : jM} {a sl : Nat} : jgI μ 4 sl (.ref a) = if jk μ a = 4 then some (jiv μ a sl) else none := by rw [gI_eq (by decide)]; simp
theorem gR4 {μ : jM} {a sl : Nat} : jgR μ 4 sl (.ref a) = if jk μ a = 4 then some (va_rf (jrv μ a sl)) else none := by rw [gR_eq (by decide)]; simp
theorem rv4 {μ : jM} {a : Nat} : jrecv μ 4 (.ref a) = decide (jk μ a = 4) := recv_eq (by decide)
theorem pI4 {μ : jM} {a sl tc : Nat} {x : Int32} : jpI μ 4 sl tc (.ref a) x = if jk μ a = 4 ∧ jfit tc x = true then some (jsetI μ a sl x) else none := pI_eq (by decide)
theorem pR4 {μ : jM} {a sl : Nat} {w : Value} : jpR μ 4 sl (.ref a) w = if jk μ a = 4 ∧ jisref w = true then some (jsetR μ a sl (jun w)) else none := pR_eq (by decide)
theorem gI5 {μ : jM} {a sl : Nat} : jgI μ 5 sl (.ref a) = if jk μ a = 5 then some (jiv μ a sl) else none := by rw [gI_eq (by decide)]; simp
theorem gR5 {μ : jM} {a sl : Nat} : jgR μ 5 sl (.ref a) = if jk μ a = 5 then some (va_rf (jrv μ a sl)) else none := by rw [gR_eq (by decide)]; simp
theorem rv5 {μ : jM} {a : Nat} : jrecv μ 5 (.ref a) = decide (jk μ a = 5) := recv_eq (by decide)
theorem pI5 {μ : jM} {a sl tc : Nat} {x : Int32} : jpI μ 5 sl tc (.ref a) x = if jk μ a = 5 ∧ jfit tc x = true then some (jsetI μ a sl x) else none := pI_eq (by decide)
theorem pR5 {μ : jM} {a sl : Nat} {w : Value} : jpR μ 5 sl (.ref a) w = if jk μ a = 5 ∧ jisref w = true then some (jsetR μ a sl (jun w)) else none := pR_eq (by decide)
theorem gI6 {μ : jM} {a sl : Nat} : jgI μ 6 sl (.ref a) = if jk μ a = 6 then some (jiv μ a sl) else none := by rw [gI_eq (by decide)]; simp
theorem gR6 {μ : jM} {a sl : Nat} : jgR μ 6 sl (.ref a) = if jk μ a = 6 then some (va_rf (jrv μ a sl)) else none := by rw [gR_eq (by decide)]; simp
theorem rv6 {μ : jM} {a : Nat} : jrecv μ 6 (.ref a) = decide (jk μ a = 6) := recv_eq (by decide)
theorem pI6 {μ : jM} {a sl tc : Nat} {x : Int32} : jpI μ 6 sl tc (.ref a) x = if jk μ a = 6 ∧ jfit tc x = true then some (jsetI μ a sl x) else none := pI_eq (by decide)
theorem pR6 {μ : jM} {a sl : Nat} {w : Value} : jpR μ 6 sl (.ref a) w = if jk μ a = 6 ∧ jisref w = true then some (jsetR μ a sl (jun w)) else none := pR_eq (by decide)
theorem gI7 {μ : jM} {a sl : Nat} : jgI μ 7 sl (.ref a) = if jk μ a = 7 then some (jiv μ a sl) else none := by rw [gI_eq (by decide)]; simp
theorem gR7 {μ : jM} {a sl : Nat} : jgR μ 7 sl (.ref a) = if jk μ a = 7 then some (va_rf (jrv μ a sl)) else none := by rw [gR_eq (by decide)]; simp
theorem rv7 {μ : jM} {a : Nat} : jrecv μ 7 (.ref a) = decide (jk μ a = 7) := recv_eq (by decide)
theorem pI7 {μ : jM} {a sl tc : Nat} {x : Int32} : jpI μ 7 sl tc (.ref a) x = if jk μ a = 7 ∧ jfit tc x = true then some (jsetI μ a sl x) else none := pI_eq (by decide)
theorem pR7 {μ : jM} {a sl : Nat} {w : Value} : jpR μ 7 sl (.ref a) w = if jk μ a = 7 ∧ jisref w = true then some (jsetR μ a sl (jun w)) else none := pR_eq (by decide)
theorem gI8 {μ : jM} {a sl : Nat} : jgI μ 8 sl (.ref a) = if jk μ a = 8 then some (jiv μ a sl) else none := by rw [gI_eq (by decide)]; simp
theorem gR8 {μ : jM} {a sl : Nat} : jgR μ 8 sl (.ref a) = if jk μ a = 8 then some (va_rf (jrv μ a sl)) else none := by rw [gR_eq (by decide)]; simp
theorem rv8 {μ : jM} {a : Nat} : jrecv μ 8 (.ref a) = decide (jk μ a = 8) := recv_eq (by decide)
theorem pI8 {μ : jM} {a sl tc : Nat} {x : Int32} : jpI μ 8 sl tc (.ref a) x = if jk μ a = 8 ∧ jfit tc x = true then some (jsetI μ a sl x) else none := pI_eq (by decide)
theorem pR8 {μ : jM} {a sl : Nat} {w : Value} : jpR μ 8 sl (.ref a) w = if jk μ a = 8 ∧ jisref w = true then some (jsetR μ a sl (jun w)) else none := pR_eq (by decide)
theorem gI9 {μ : jM} {a sl : Nat} : jgI μ 9 sl (.ref a) = if jk μ a = 9 then some (jiv μ a sl) else none := by rw [gI_eq (by decide)]; simp
theorem gR9 {μ : jM} {a sl : Nat} : jgR μ 9 sl (.ref a) = if jk μ a = 9 then some (va_rf (jrv μ a sl)) else none := by rw [gR_eq (by decide)]; simp
theorem rv9 {μ : jM} {a : Nat} : jrecv μ 9 (.ref a) = decide (jk μ a = 9) := recv_eq (by decide)
theorem pI9 {μ : jM} {a sl tc : Nat} {x : Int32} : jpI μ 9 sl tc (.ref a) x = if jk μ a = 9 ∧ jfit tc x = true then some (jsetI μ a sl x) else none := pI_eq (by decide)
theorem pR9 {μ : jM} {a sl : Nat} {w : Value} : jpR μ 9 sl (.ref a) w = if jk μ a = 9 ∧ jisref w = true then some (jsetR μ a sl (jun w)) else none := pR_eq (by decide)
theorem gI10 {μ : jM} {a sl : Nat} : jgI μ 10 sl (.ref a) = if jk μ a = 10 then some (jiv μ a sl) else none := by rw [gI_eq (by decide)]; simp
theorem gR10 {μ : jM} {a sl : Nat} : jgR μ 10 sl (.ref a) = if jk μ a = 10 then some (va_rf (jrv μ a sl)) else none := by rw [gR_eq (by decide)]; simp
theorem rv10 {μ : jM} {a : Nat} : jrecv μ 10 (.ref a) = decide (jk μ a = 10) := recv_eq (by decide)
theorem pI10 {μ : jM} {a sl tc : Nat} {x : Int32} : jpI μ 10 sl tc (.ref a) x = if jk μ a = 10 ∧ jfit tc x = true then some (jsetI μ a sl x) else none := pI_eq (by decide)
theorem pR10 {μ : jM} {a sl : Nat} {w : Value} : jpR μ 10 sl (.ref a) w = if jk μ a = 10 ∧ jisref w = true then some (jsetR μ a sl (jun w)) else none := pR_eq (by decide)
theorem gI11 {μ : jM} {a sl : Nat} : jgI μ 11 sl (.ref a) = if jk μ a = 11 then some (jiv μ a sl) else none := by rw [gI_eq (by decide)]; simp
theorem gR11 {μ : jM} {a sl : Nat} : jgR μ 11 sl (.ref a) = if jk μ a = 11 then some (va_rf (jrv μ a sl)) else none := by rw [gR_eq (by decide)]; simp
theorem rv11 {μ : jM} {a : Nat} : jrecv μ 11 (.ref a) = decide (jk μ a = 11) := recv_eq (by decide)
theorem pI11 {μ : jM} {a sl tc : Nat} {x : Int32} : jpI μ 11 sl tc (.ref a) x = if jk μ a = 11 ∧ jfit tc x = true then some (jsetI μ a sl x) else none := pI_eq (by decide)
theorem pR11 {μ : jM} {a sl : Nat} {w : Value} : jpR μ 11 sl (.ref a) w = if jk μ a = 11 ∧ jisref w = true then some (jsetR μ a sl (jun w)) else none := pR_eq (by decide)
theorem gI12 {μ : jM} {a sl : Nat} : jgI μ 12 sl (.ref a) = if jk μ a = 12 then some (jiv μ a sl) else none := by rw [gI_eq (by decide)]; simp
theorem gR12 {μ : jM} {a sl : Nat} : jgR μ 12 sl (.ref a) = if jk μ a = 12 then some (va_rf (jrv μ a sl)) else none := by rw [gR_eq (by decide)]; simp
theorem rv12 {μ : jM} {a : Nat} : jrecv μ 12 (.ref a) = decide (jk μ a = 12) := recv_eq (by decide)
theorem pI12 {μ : jM} {a sl tc : Nat} {x : Int32} : jpI μ 12 sl tc (.ref a) x = if jk μ a = 12 ∧ jfit tc x = true then some (jsetI μ a sl x) else none := pI_eq (by decide)
theorem pR12 {μ : jM} {a sl : Nat} {w : Value} : jpR μ 12 sl (.ref a) w = if jk μ a = 12 ∧ jisref w = true then some (jsetR μ a sl (jun w)) else none := pR_eq (by decide)
theorem gI13 {μ : jM} {a sl : Nat} : jgI μ 13 sl (.ref a) = if jk μ a = 13 then some (jiv μ a sl) else none := by rw [gI_eq (by decide)]; simp
theorem gR13 {μ : jM} {a sl : Nat} : jgR μ 13 sl (.ref a) = if jk μ a = 13 then some (va_rf (jrv μ a sl)) else none := by rw [gR_eq (by decide)]; simp
theorem rv13 {μ : jM} {a : Nat} : jrecv μ 13 (.ref a) = decide (jk μ a = 13) := recv_eq (by decide)
theorem pI13 {μ : jM} {a sl tc : Nat} {x : Int32} : jpI μ 13 sl tc (.ref a) x = if jk μ a = 13 ∧ jfit tc x = true then some (jsetI μ a sl x) else none := pI_eq (by decide)
theorem pR13 {μ : jM} {a sl : Nat} {w : Value} : jpR μ 13 sl (.ref a) w = if jk μ a = 13 ∧ jisref w = true then some (jsetR μ a sl (jun w)) else none := pR_eq (by decide)
theorem cp_eq {μ : jM} {a b : Nat} {sp dp n : Int32} : jcp μ (.ref a) sp (.ref b) dp n = if (jk μ a = jk μ b ∧ (jk μ a = 20 ∨ jk μ a = 21 ∨ jk μ a = 22) ∨ jk μ a = 41 ∧ jk μ b = 22) ∧ 0 ≤ sp ∧ 0 ≤ dp ∧ 0 ≤ n ∧ sp.toNatClampNeg + n.toNatClampNeg ≤ jl μ a ∧ dp.toNatClampNeg + n.toNatClampNeg ≤ jl μ b then some (jrowI μ b (va_cpy (jiv μ a) (jiv μ b) sp.toNatClampNeg dp.toNatClampNeg n.toNatClampNeg)) else none := by
  unfold jcp jk jl
  show ((jty μ a).map _).bind _ = _
  cases e : jty μ a with
  | none => rw [if_neg (fun h => by rcases h.1 with ⟨-, g⟩ | ⟨g, -⟩ <;> revert g <;> decide)]; rfl
  | some q =>
    show ((jty μ b).map _).bind _ = _
    cases e2 : jty μ b with
    | none => rw [if_neg (by rintro ⟨⟨g, g2⟩ | ⟨-, g⟩, -⟩; · { rw [g] at g2; revert g2; decide }; · { revert g; decide })]; rfl
    | some q2 => rfl
theorem cl_eq {μ : jM} {a : Nat} : jcl μ (.ref a) = if jk μ a = 20 ∨ jk μ a = 22 then some (.ref (jsz μ), jrowI (jnew μ (jk μ a) (jl μ a) (jl μ a)) (jsz μ) (jiv μ a)) else none := by
  unfold jcl jk jl
  show ((jty μ a).map _).bind _ = _
  cases e : jty μ a with
  | none => rw [if_neg (by decide)]; rfl
  | some q => rfl
theorem N_ge0 {n : Nat} (h : n < 2147483648) : (N 0 ≤ N n) = True := by
  rw [N_le (by omega) h]
  exact eq_true (by omega)
/-- what may have changed: numbers at S, references at T -/
def Fx (S : Nat → Prop) (T : Nat → Nat → Prop) (μ μ' : jM) : Prop :=
  jext μ' = jext μ ∧ jty μ' = jty μ ∧ jsz μ' = jsz μ ∧ jsl μ' = jsl μ ∧ (∀ a, ¬ S a → jiv μ' a = jiv μ a) ∧ ∀ a j, ¬ T a j → jrv μ' a j = jrv μ a j
section FX
variable {S S' S'' : Nat → Prop} {T T' T'' : Nat → Nat → Prop} {μ μ' μ'' : jM} {a k : Nat}
theorem Fx.refl : Fx S T μ μ := ⟨rfl, rfl, rfl, rfl, fun _ _ => rfl, fun _ _ _ => rfl⟩
theorem Fx.trans (h : Fx S T μ μ') (h' : Fx S T μ' μ'') : Fx S T μ μ'' :=
  ⟨h'.1.trans h.1, h'.2.1.trans h.2.1, h'.2.2.1.trans h.2.2.1, h'.2.2.2.1.trans h.2.2.2.1, fun a ha => (h'.2.2.2.2.1 a ha).trans (h.2.2.2.2.1 a ha), fun a j ha => (h'.2.2.2.2.2 a j ha).trans (h.2.2.2.2.2 a j ha)⟩
theorem Fx.mono (h : Fx S T μ μ') (hS : ∀ a, S a → S' a) (hT : ∀ a j, T a j → T' a j) : Fx S' T' μ μ' :=
  ⟨h.1, h.2.1, h.2.2.1, h.2.2.2.1, fun a ha => h.2.2.2.2.1 a (fun g => ha (hS a g)), fun a j ha => h.2.2.2.2.2 a j (fun g => ha (hT a j g))⟩
theorem Fx.setI {v : Int32} (h : Fx S T μ μ') (ha : S a) : Fx S T μ (jsetI μ' a k v) :=
  h.trans ⟨rfl, rfl, rfl, rfl, fun b hb => by funext j; exact if_neg (fun g => hb (by rw [g.1]; exact ha)), fun _ _ _ => rfl⟩
theorem Fx.rowI {f : Nat → Int32} (h : Fx S T μ μ') (ha : S a) : Fx S T μ (jrowI μ' a f) :=
  h.trans ⟨rfl, rfl, rfl, rfl, fun b hb => by funext j; exact if_neg (fun g => hb (by rw [g]; exact ha)), fun _ _ _ => rfl⟩
theorem Fx.setR {r : Option Nat} (h : Fx S T μ μ') (ha : T a k) : Fx S T μ (jsetR μ' a k r) :=
  h.trans ⟨rfl, rfl, rfl, rfl, fun _ _ => rfl, fun b j hb => if_neg (fun g => hb (by rw [g.1, g.2]; exact ha))⟩
theorem Fx.rowR {f : Nat → Option Nat} (h : Fx S T μ μ') (ha : ∀ j, T a j) : Fx S T μ (jrowR μ' a f) :=
  h.trans ⟨rfl, rfl, rfl, rfl, fun _ _ => rfl, fun b j hb => if_neg (fun g => hb (by rw [g]; exact ha j))⟩
theorem Fx.ext (h : Fx S T μ μ') : jext μ' = jext μ := h.1
theorem Fx.ty (h : Fx S T μ μ') : jty μ' = jty μ := h.2.1
theorem Fx.sz (h : Fx S T μ μ') : jsz μ' = jsz μ := h.2.2.1
theorem Fx.sl (h : Fx S T μ μ') : jsl μ' = jsl μ := h.2.2.2.1
theorem Fx.kk (h : Fx S T μ μ') : jk μ' = jk μ := by funext a; unfold jk; rw [h.ty]
theorem Fx.ll (h : Fx S T μ μ') : jl μ' = jl μ := by funext a; unfold jl; rw [h.ty]
theorem Fx.iv (h : Fx S T μ μ') (ha : ¬ S a) : jiv μ' a = jiv μ a := h.2.2.2.2.1 a ha
theorem Fx.rv {j : Nat} (h : Fx S T μ μ') (ha : ¬ T a j) : jrv μ' a j = jrv μ a j := h.2.2.2.2.2 a j ha
end FX
-- not by rfl: simp's discharger passes over rows that are
theorem ir_ref {a : Nat} : jisref (.ref a) = true := jr_rf (o := some a)
theorem ir_null : jisref .null = true := jr_rf (o := none)
theorem iv_setIn {μ : jM} {a b k : Nat} {v : Int32} (h : ¬ b = a) : jiv (jsetI μ a k v) b = jiv μ b := by funext j; exact if_neg (fun g => h g.1)
theorem iv_rowIn {μ : jM} {a b : Nat} {f : Nat → Int32} (h : ¬ b = a) : jiv (jrowI μ a f) b = jiv μ b := by funext j; exact if_neg h
theorem rv_setRn {μ : jM} {a b k : Nat} {v : Option Nat} (h : ¬ b = a) : jrv (jsetR μ a k v) b = jrv μ b := by funext j; exact if_neg (fun g => h g.1)
theorem rv_rowRn {μ : jM} {a b : Nat} {f : Nat → Option Nat} (h : ¬ b = a) : jrv (jrowR μ a f) b = jrv μ b := by funext j; exact if_neg h
theorem iv_rowIe {μ : jM} {a : Nat} {f : Nat → Int32} : jiv (jrowI μ a f) a = f := by funext j; exact if_pos rfl
theorem rv_rowRe {μ : jM} {a : Nat} {f : Nat → Option Nat} : jrv (jrowR μ a f) a = f := by funext j; exact if_pos rfl
theorem N_pred {i : Nat} (h : 1 ≤ i) : N i + NEG = N (i - 1) := by
  have e : N i = N (i - 1) + N 1 := by rw [N_add]; congr 1; omega
  rw [e, Int32.add_assoc, show N 1 + NEG = 0 by decide, Int32.add_zero]
theorem N_ne {a b : Nat} (ha : a < 2147483648) (hb : b < 2147483648) (h : a ≠ b) : (N a = N b) = False := by rw [N_inj ha hb]; exact eq_false h
theorem n01 : (N 0 = N 1) = False := N_ne (by decide) (by decide) (by decide)
theorem n02 : (N 0 = N 2) = False := N_ne (by decide) (by decide) (by decide)
theorem n03 : (N 0 = N 3) = False := N_ne (by decide) (by decide) (by decide)
theorem n10 : (N 1 = N 0) = False := N_ne (by decide) (by decide) (by decide)
theorem n12 : (N 1 = N 2) = False := N_ne (by decide) (by decide) (by decide)
theorem n13 : (N 1 = N 3) = False := N_ne (by decide) (by decide) (by decide)
theorem n20 : (N 2 = N 0) = False := N_ne (by decide) (by decide) (by decide)
theorem n21 : (N 2 = N 1) = False := N_ne (by decide) (by decide) (by decide)
theorem n23 : (N 2 = N 3) = False := N_ne (by decide) (by decide) (by decide)
theorem n30 : (N 3 = N 0) = False := N_ne (by decide) (by decide) (by decide)
theorem n31 : (N 3 = N 1) = False := N_ne (by decide) (by decide) (by decide)
theorem n32 : (N 3 = N 2) = False := N_ne (by decide) (by decide) (by decide)
