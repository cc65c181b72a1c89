/-! THE SMALL MACHINE: a memory by kinds, one step of each instruction that the claim's code has, runs with fuel, and what a run comes to (jR, jC) as equations. -/
/-- external values; kinds and lengths; numbers; references; how many cells; how many slots were taken -/
abbrev jM : Type := (Nat → Value) × (Nat → Option (Nat × Nat)) × (Nat → Nat → Int32) × (Nat → Nat → Option Nat) × Nat × Nat
def jext (μ : jM) : Nat → Value := μ.1
def jty (μ : jM) : Nat → Option (Nat × Nat) := μ.2.1
def jiv (μ : jM) : Nat → Nat → Int32 := μ.2.2.1
def jrv (μ : jM) : Nat → Nat → Option Nat := μ.2.2.2.1
def jsz (μ : jM) : Nat := μ.2.2.2.2.1
def jsl (μ : jM) : Nat := μ.2.2.2.2.2
def jsetI (μ : jM) (a k : Nat) (v : Int32) : jM := (μ.1, μ.2.1, fun a' k' => if a' = a ∧ k' = k then v else μ.2.2.1 a' k', μ.2.2.2)
def jsetR (μ : jM) (a k : Nat) (v : Option Nat) : jM := (μ.1, μ.2.1, μ.2.2.1, fun a' k' => if a' = a ∧ k' = k then v else μ.2.2.2.1 a' k', μ.2.2.2.2)
/-- a new cell: its kind, its length, the slots that it takes -/
def jnew (μ : jM) (k n w : Nat) : jM := (μ.1, fun a => if a = μ.2.2.2.2.1 then some (k, n) else μ.2.1 a, fun a' k' => if a' = μ.2.2.2.2.1 then 0 else μ.2.2.1 a' k', fun a' k' => if a' = μ.2.2.2.2.1 then none else μ.2.2.2.1 a' k', μ.2.2.2.2.1 + 1, μ.2.2.2.2.2 + w)
/-- a row of numbers (of references) anew -/
def jrowI (μ : jM) (a : Nat) (f : Nat → Int32) : jM := (μ.1, μ.2.1, fun a' k' => if a' = a then f k' else μ.2.2.1 a' k', μ.2.2.2)
def jrowR (μ : jM) (a : Nat) (f : Nat → Option Nat) : jM := (μ.1, μ.2.1, μ.2.2.1, fun a' k' => if a' = a then f k' else μ.2.2.2.1 a' k', μ.2.2.2.2)
def jinb (i : Int32) (n : Nat) : Bool := !(decide (i < 0) || Nat.ble n i.toNatClampNeg)
def jisref : Value → Bool
  | .ref _ => true
  | .null => true
  | _ => false
def jun : Value → Option Nat
  | .ref a => some a
  | _ => none
def jcat1 (v : Value) : Bool := v.category == 1
def jat (μ : jM) : Value → Option (Nat × Nat × Nat)
  | .ref a => (jty μ a).map fun q => (a, q.1, q.2)
  | _ => none
/-- a field's number, of an object of kind k (a constant text is read as a text) -/
def jgI (μ : jM) (k sl : Nat) (v : Value) : Option Int32 :=
  (jat μ v).bind fun q => if q.2.1 = k ∨ (q.2.1 = 40 ∧ k = 0 ∧ sl = 1) then some (jiv μ q.1 sl) else none
def jgR (μ : jM) (k sl : Nat) (v : Value) : Option Value :=
  (jat μ v).bind fun q => if q.2.1 = k ∨ (q.2.1 = 40 ∧ k = 0 ∧ sl = 0) then some (va_rf (jrv μ q.1 sl)) else none
/-- what a field of that type may hold: 0 int, 2 boolean, 3 byte -/
def jfit (tc : Nat) (x : Int32) : Bool := tc == 0 || (tc == 2 && (x == 0 || x == 1)) || (tc == 3 && x.toInt8.toInt32 == x && decide (-128 ≤ x) && decide (x ≤ 127))
def jpI (μ : jM) (k sl tc : Nat) (v : Value) (x : Int32) : Option jM :=
  (jat μ v).bind fun q => if q.2.1 = k ∧ jfit tc x = true then some (jsetI μ q.1 sl x) else none
def jpR (μ : jM) (k sl : Nat) (v w : Value) : Option jM :=
  (jat μ v).bind fun q => if q.2.1 = k ∧ jisref w = true then some (jsetR μ q.1 sl (jun w)) else none
/-- kinds of arrays: 20 int, 21 boolean, 22 byte, 30 and on references; 41 bytes, 42 ints, read alone -/
def jaI (μ : jM) (v : Value) (i : Int32) : Option Int32 :=
  (jat μ v).bind fun q => if (q.2.1 = 20 ∨ q.2.1 = 42) ∧ jinb i q.2.2 = true then some (jiv μ q.1 i.toNatClampNeg) else none
def jaB (μ : jM) (v : Value) (i : Int32) : Option Int32 :=
  (jat μ v).bind fun q => if (q.2.1 = 21 ∨ q.2.1 = 22 ∨ q.2.1 = 41) ∧ jinb i q.2.2 = true then some (jiv μ q.1 i.toNatClampNeg) else none
def jaR (μ : jM) (v : Value) (i : Int32) : Option Value :=
  (jat μ v).bind fun q => if (30 ≤ q.2.1 ∧ q.2.1 < 36) ∧ jinb i q.2.2 = true then some (va_rf (jrv μ q.1 i.toNatClampNeg)) else none
def jsI (μ : jM) (v : Value) (i x : Int32) : Option jM :=
  (jat μ v).bind fun q => if q.2.1 = 20 ∧ jinb i q.2.2 = true then some (jsetI μ q.1 i.toNatClampNeg x) else none
def jsB (μ : jM) (v : Value) (i x : Int32) : Option jM :=
  (jat μ v).bind fun q => if q.2.1 = 22 ∧ jinb i q.2.2 = true then some (jsetI μ q.1 i.toNatClampNeg x.toInt8.toInt32) else if q.2.1 = 21 ∧ jinb i q.2.2 = true ∧ (x = 0 ∨ x = 1) then some (jsetI μ q.1 i.toNatClampNeg x) else none
/-- the kind of what an array of kind k holds -/
def jel (k : Nat) : Nat := if k = 30 then 5 else if k = 31 then 6 else if k = 32 then 9 else if k = 33 then 20 else if k = 34 then 33 else 34
def jokel (μ : jM) (k : Nat) : Value → Bool
  | .null => true
  | .ref b => (jty μ b).any fun q => q.1 == jel k
  | _ => false
def jsR (μ : jM) (v : Value) (i : Int32) (w : Value) : Option jM :=
  (jat μ v).bind fun q => if (30 ≤ q.2.1 ∧ q.2.1 < 36) ∧ jinb i q.2.2 = true ∧ jokel μ q.2.1 w = true then some (jsetR μ q.1 i.toNatClampNeg (jun w)) else none
def jal (μ : jM) (v : Value) : Option Int32 :=
  (jat μ v).bind fun q => if 20 ≤ q.2.1 ∧ q.2.1 ≠ 40 then some (Int32.ofNat q.2.2) else none
/-- a new array of kind k (its length is tested) -/
def jnA (μ : jM) (k : Nat) (n : Int32) : Option (Value × jM) :=
  if 0 ≤ n ∧ n ≤ 65536 then some (.ref (jsz μ), jnew μ k n.toNatClampNeg n.toNatClampNeg) else none
/-- new T[n][m]: the outer one of kind ko, the first i inner ones of kind ki laid -/
def jfill2 (μ : jM) (ko ki n m : Nat) : Nat → jM
  | 0 => jnew μ ko n n
  | i + 1 => jsetR (jnew (jfill2 μ ko ki n m i) ki m m) (jsz μ) i (some (jsz μ + 1 + i))
/-- new T[n][m][r] -/
def jfill3 (μ : jM) (kt ko ki n m r : Nat) : Nat → jM
  | 0 => jnew μ kt n n
  | i + 1 => jsetR (jfill2 (jfill3 μ kt ko ki n m r i) ko ki m r m) (jsz μ) i (some (jsz μ + 1 + i * (1 + m)))
/-- System.arraycopy -/
def jcp (μ : jM) (v : Value) (sp : Int32) (w : Value) (dp n : Int32) : Option jM :=
  (jat μ v).bind fun q => (jat μ w).bind fun t =>
    if (q.2.1 = t.2.1 ∧ (q.2.1 = 20 ∨ q.2.1 = 21 ∨ q.2.1 = 22) ∨ q.2.1 = 41 ∧ t.2.1 = 22) ∧ 0 ≤ sp ∧ 0 ≤ dp ∧ 0 ≤ n ∧ sp.toNatClampNeg + n.toNatClampNeg ≤ q.2.2 ∧ dp.toNatClampNeg + n.toNatClampNeg ≤ t.2.2
    then some (jrowI μ t.1 (va_cpy (jiv μ q.1) (jiv μ t.1) sp.toNatClampNeg dp.toNatClampNeg n.toNatClampNeg)) else none
/-- clone of an array of ints or bytes -/
def jcl (μ : jM) (v : Value) : Option (Value × jM) :=
  (jat μ v).bind fun q => if q.2.1 = 20 ∨ q.2.1 = 22 then some (.ref (jsz μ), jrowI (jnew μ q.2.1 q.2.2 q.2.2) (jsz μ) (jiv μ q.1)) else none
def jtgt (pc : Nat) (off : Int) : Option Nat := match (pc : Int) + off with
  | .ofNat t => some t
  | .negSucc _ => none
def jcmp (c : Jvm.ClassFile.Cond) (x y : Int32) : Bool := match c with
  | .eq => x == y | .ne => !(x == y) | .lt => decide (x < y) | .ge => !decide (x < y) | .gt => decide (y < x) | .le => !decide (y < x)
def jsw (i : Instr) (x : Int32) : Option Int := match i with
  | .tableswitch d lo hi offs => if x.toInt < lo ∨ hi < x.toInt then some d else offs[(x.toInt - lo).toNat]?
  | .lookupswitch d ps => if (ps.toList.zip (ps.toList.drop 1)).all (fun (a, next) => a.1 < next.1) = true then some (Op.lookupswitch.offset ps.toList d x.toInt) else none
  | _ => none
/-- a step's outcome: on; the method's end; a call of a method with values, the rest of the stack -/
abbrev jO : Type := (Nat × List Value × List Value × jM) ⊕ (Option Value × jM) ⊕ (Nat × List Value × List Value)
def jgo (pc : Nat) (ls st : List Value) (μ : jM) : Option jO := some (.inl (pc, ls, st, μ))
def jset (ls : List Value) (i : Nat) (v : Value) : Option (List Value) := if i < ls.length then some (ls.set i v) else none
def jld (ls : List Value) (i pc : Nat) (st : List Value) (μ : jM) : Option jO := (ls[i]?).bind fun v => match v with
  | .int x => jgo pc ls (.int x :: st) μ
  | _ => none
def jlda (ls : List Value) (i pc : Nat) (st : List Value) (μ : jM) : Option jO := (ls[i]?).bind fun v => if jisref v = true then jgo pc ls (v :: st) μ else none
def jsti (ls : List Value) (i pc : Nat) (st : List Value) (μ : jM) : Option jO := match st with
  | .int x :: st => (jset ls i (.int x)).bind fun ls' => jgo pc ls' st μ
  | _ => none
def jsta (ls : List Value) (i pc : Nat) (st : List Value) (μ : jM) : Option jO := match st with
  | v :: st => if jisref v = true then (jset ls i v).bind fun ls' => jgo pc ls' st μ else none
  | _ => none
def jbin (f : Int32 → Int32 → Int32) (pc : Nat) (ls st : List Value) (μ : jM) : Option jO := match st with
  | .int y :: .int x :: st => jgo pc ls (.int (f x y) :: st) μ
  | _ => none
def jun1 (f : Int32 → Int32) (pc : Nat) (ls st : List Value) (μ : jM) : Option jO := match st with
  | .int x :: st => jgo pc ls (.int (f x) :: st) μ
  | _ => none
/-- ret's form: 0 none, 1 int, 2 long, 3 a reference, 4 boolean, 5 byte, 6 char -/
def jrf (rc : Nat) (x : Int32) : Bool := rc == 1 || (rc == 4 && (x &&& 1) == x) || (rc == 5 && x.toInt8.toInt32 == x) || (rc == 6 && x.toUInt32.toUInt16.toUInt32.toInt32 == x)
/-- which instruction calls by such an entry: 0 none, 1 invokevirtual, 2 invokestatic, 3 invokespecial -/
def juse (z : Nat) : Nat := if z = 10 ∨ z = 11 ∨ z = 17 ∨ z = 20 ∨ z = 21 then 1 else if z = 12 ∨ z = 13 ∨ z = 19 then 2 else if z = 14 ∨ z = 15 ∨ z = 16 ∨ z = 18 then 3 else 0
/-- a call's entry: the method (0: Object's own constructor, 1: arraycopy, 2: clone), how many values, the receiver's kind (99: none is asked) -/
def jinv (u : Nat) (r : Option (Nat × Nat × Nat × Nat × Nat)) (pc : Nat) (ls st : List Value) (μ : jM) : Option jO := r.bind fun q =>
  if juse q.2.2.2.2 = u ∧ ((st.drop q.2.1).map fun v => v.category).sum ≤ 8 ∧ (st.take q.2.1).all jcat1 = true ∧ q.2.1 ≤ st.length then
    if q.1 = 0 then (match st with | .ref _ :: st => some (.inr (.inr (0, [], st))) | _ => none)
    else if q.1 = 1 then (match st with | .int n :: .int dp :: w :: .int sp :: v :: st => (jcp μ v sp w dp n).bind fun _ => some (.inr (.inr (1, [v, .int sp, w, .int dp, .int n], st))) | _ => none)
    else if q.1 = 2 then (match st with | v :: st => (jat μ v).bind fun t => if t.2.1 = q.2.2.2.1 ∧ (t.2.1 = 20 ∨ t.2.1 = 22) then some (.inr (.inr (2, [v], st))) else none | _ => none)
    else if q.2.2.1 = 99 then
      if u = 3 then (match (st.take q.2.1).reverse with | .ref a :: as => some (.inr (.inr (q.1, .ref a :: as, st.drop q.2.1))) | _ => none)
      else some (.inr (.inr (q.1, (st.take q.2.1).reverse, st.drop q.2.1)))
    else match (st.take q.2.1).reverse with
      | .ref a :: as => (jty μ a).bind fun t => if t.1 = q.2.2.1 ∨ (t.1 = 40 ∧ q.2.2.1 = 0) then some (.inr (.inr (q.1, .ref a :: as, st.drop q.2.1))) else none
      | _ => none
  else none
/-- one step; RS: what an entry of the pool stands for (five numbers); KV: a constant (a number: .inl; an external value: .inr); rc: the form of the method's answer; ik: of a constructor the kind of its class, plus one -/
def jstep (RS : Nat → Option (Nat × Nat × Nat × Nat × Nat)) (KV : Nat → Option (Value ⊕ Nat)) (rc ik : Nat) (i : Instr) (pc : Nat) (ls st : List Value) (μ : jM) : Option jO := match i with
  | .aload_n k => jlda ls k.val (pc + 1) st μ
  | .aload k => jlda ls k (pc + 2) st μ
  | .iload_n k => jld ls k.val (pc + 1) st μ
  | .iload k => jld ls k (pc + 2) st μ
  | .istore_n k => jsti ls k.val (pc + 1) st μ
  | .istore k => jsti ls k (pc + 2) st μ
  | .astore_n k => jsta ls k.val (pc + 1) st μ
  | .astore k => jsta ls k (pc + 2) st μ
  | .iconst n => jgo (pc + 1) ls (.int (Int32.ofInt n) :: st) μ
  | .bipush n => jgo (pc + 2) ls (.int (Int8.ofInt n).toInt32 :: st) μ
  | .sipush n => jgo (pc + 3) ls (.int (Int16.ofInt n).toInt32 :: st) μ
  | .aconst_null => jgo (pc + 1) ls (.null :: st) μ
  | .ldc k => (KV k).bind fun v => match v with
    | .inl v => if jcat1 v = true then jgo (pc + 2) ls (v :: st) μ else none
    | .inr j => if j < 8 then none else jgo (pc + 2) ls (jext μ j :: st) μ
  | .ldc_w k => (KV k).bind fun v => match v with
    | .inl v => if jcat1 v = true then jgo (pc + 3) ls (v :: st) μ else none
    | .inr j => if j < 8 then none else jgo (pc + 3) ls (jext μ j :: st) μ
  | .ldc2_w k => (KV k).bind fun v => match v with
    | .inl v => (match v with | .long x => jgo (pc + 3) ls (.long x :: st) μ | _ => none)
    | .inr _ => none
  | .getstatic k => (KV k).bind fun v => match v with
    | .inl _ => none
    | .inr j => if j < 8 then jgo (pc + 3) ls (jext μ j :: st) μ else none
  | .getfield k => (RS k).bind fun q => if 1 < q.2.2.2.2 then none else match st with
    | v :: st => if q.2.2.1 = 1 then (jgR μ q.1 q.2.1 v).bind fun w => jgo (pc + 3) ls (w :: st) μ else (jgI μ q.1 q.2.1 v).bind fun x => jgo (pc + 3) ls (.int x :: st) μ
    | _ => none
  | .putfield k => (RS k).bind fun q => if 1 < q.2.2.2.2 ∨ (q.2.2.2.1 = 1 ∧ ¬ (ik = q.1 + 1 ∧ q.2.2.2.2 = 0)) then none else match st with
    | .int x :: v :: st => if q.2.2.1 = 1 then none else (jpI μ q.1 q.2.1 q.2.2.1 v x).bind fun μ' => jgo (pc + 3) ls st μ'
    | w :: v :: st => if q.2.2.1 = 1 then (jpR μ q.1 q.2.1 v w).bind fun μ' => jgo (pc + 3) ls st μ' else none
    | _ => none
  | .iaload => match st with
    | .int i :: v :: st => (jaI μ v i).bind fun x => jgo (pc + 1) ls (.int x :: st) μ
    | _ => none
  | .baload => match st with
    | .int i :: v :: st => (jaB μ v i).bind fun x => jgo (pc + 1) ls (.int x :: st) μ
    | _ => none
  | .aaload => match st with
    | .int i :: v :: st => (jaR μ v i).bind fun w => jgo (pc + 1) ls (w :: st) μ
    | _ => none
  | .iastore => match st with
    | .int x :: .int i :: v :: st => (jsI μ v i x).bind fun μ' => jgo (pc + 1) ls st μ'
    | _ => none
  | .bastore => match st with
    | .int x :: .int i :: v :: st => (jsB μ v i x).bind fun μ' => jgo (pc + 1) ls st μ'
    | _ => none
  | .aastore => match st with
    | w :: .int i :: v :: st => (jsR μ v i w).bind fun μ' => jgo (pc + 1) ls st μ'
    | _ => none
  | .arraylength => match st with
    | v :: st => (jal μ v).bind fun x => jgo (pc + 1) ls (.int x :: st) μ
    | _ => none
  | .new k => (RS k).bind fun q => if ¬ q.2.2.2.2 = 30 then none else jgo (pc + 3) ls (.ref (jsz μ) :: st) (jnew μ q.1 0 q.2.1)
  | .newarray t => match st with
    | .int n :: st => (match t with | .int => jnA μ 20 n | .boolean => jnA μ 21 n | .byte => jnA μ 22 n | _ => none).bind fun p => jgo (pc + 2) ls (p.1 :: st) p.2
    | _ => none
  | .anewarray k => (RS k).bind fun q => if ¬ q.2.2.2.2 = 30 then none else match st with
    | .int n :: st => (jnA μ q.2.2.2.1 n).bind fun p => jgo (pc + 3) ls (p.1 :: st) p.2
    | _ => none
  | .multianewarray k 2 => (RS k).bind fun q => if ¬ q.2.2.2.2 = 30 then none else match st with
    | .int m :: .int n :: st => if 0 ≤ n ∧ n ≤ 64 ∧ 0 ≤ m ∧ m ≤ 64 then jgo (pc + 4) ls (.ref (jsz μ) :: st) (jfill2 μ q.2.2.2.1 (jel q.2.2.2.1) n.toNatClampNeg m.toNatClampNeg n.toNatClampNeg) else none
    | _ => none
  | .multianewarray k 3 => (RS k).bind fun q => if ¬ q.2.2.2.2 = 30 then none else match st with
    | .int r :: .int m :: .int n :: st => if 0 ≤ n ∧ n ≤ 64 ∧ 0 ≤ m ∧ m ≤ 64 ∧ 0 ≤ r ∧ r ≤ 64 then jgo (pc + 4) ls (.ref (jsz μ) :: st) (jfill3 μ q.2.2.2.1 (jel q.2.2.2.1) (jel (jel q.2.2.2.1)) n.toNatClampNeg m.toNatClampNeg r.toNatClampNeg n.toNatClampNeg) else none
    | _ => none
  | .dup => match st with
    | v :: st => if jcat1 v = true then jgo (pc + 1) ls (v :: v :: st) μ else none
    | _ => none
  | .dup_x1 => match st with
    | v :: w :: st => if jcat1 v = true ∧ jcat1 w = true then jgo (pc + 1) ls (v :: w :: v :: st) μ else none
    | _ => none
  | .dup2 => match st with
    | v :: w :: st => if jcat1 v = true ∧ jcat1 w = true then jgo (pc + 1) ls (v :: w :: v :: w :: st) μ else none
    | _ => none
  | .pop => match st with
    | v :: st => if jcat1 v = true then jgo (pc + 1) ls st μ else none
    | _ => none
  | .iadd => jbin (fun x y => x + y) (pc + 1) ls st μ
  | .isub => jbin (fun x y => x - y) (pc + 1) ls st μ
  | .imul => jbin (fun x y => x * y) (pc + 1) ls st μ
  | .iand => jbin (fun x y => x &&& y) (pc + 1) ls st μ
  | .ior => jbin (fun x y => x ||| y) (pc + 1) ls st μ
  | .ishl => jbin (fun x y => x <<< (y &&& 31)) (pc + 1) ls st μ
  | .ishr => jbin (fun x y => x >>> (y &&& 31)) (pc + 1) ls st μ
  | .iushr => jbin (fun x y => (x.toUInt32 >>> (y.toUInt32 &&& Int32.toUInt32 31)).toInt32) (pc + 1) ls st μ
  | .idiv => match st with
    | .int y :: .int x :: st => if y = 0 then none else jgo (pc + 1) ls (.int (x / y) :: st) μ
    | _ => none
  | .irem => match st with
    | .int y :: .int x :: st => if y = 0 then none else jgo (pc + 1) ls (.int (x - x / y * y) :: st) μ
    | _ => none
  | .ineg => jun1 (fun x => -x) (pc + 1) ls st μ
  | .i2b => jun1 (fun x => x.toInt8.toInt32) (pc + 1) ls st μ
  | .i2s => jun1 (fun x => x.toInt16.toInt32) (pc + 1) ls st μ
  | .i2c => jun1 (fun x => (x.toUInt32 % 65536).toInt32) (pc + 1) ls st μ
  | .i2l => match st with
    | .int x :: st => jgo (pc + 1) ls (.long x.toInt64 :: st) μ
    | _ => none
  | .lcmp => match st with
    | .long y :: .long x :: st => jgo (pc + 1) ls (.int (lg_cmp x y) :: st) μ
    | _ => none
  | .ifCond c off => match st with
    | .int x :: st => (jtgt pc off).bind fun t => if jcmp c x 0 = true then jgo t ls st μ else jgo (pc + 3) ls st μ
    | _ => none
  | .if_icmp c off => match st with
    | .int y :: .int x :: st => (jtgt pc off).bind fun t => if jcmp c x y = true then jgo t ls st μ else jgo (pc + 3) ls st μ
    | _ => none
  | .ifnull off => match st with
    | v :: st => if jisref v = true then (jtgt pc off).bind fun t => if jun v = none then jgo t ls st μ else jgo (pc + 3) ls st μ else none
    | _ => none
  | .ifnonnull off => match st with
    | v :: st => if jisref v = true then (jtgt pc off).bind fun t => if jun v = none then jgo (pc + 3) ls st μ else jgo t ls st μ else none
    | _ => none
  | .goto off => (jtgt pc off).bind fun t => jgo t ls st μ
  | .tableswitch d lo hi offs => match st with
    | .int x :: st => (jsw (.tableswitch d lo hi offs) x).bind fun o => (jtgt pc o).bind fun t => jgo t ls st μ
    | _ => none
  | .lookupswitch d ps => match st with
    | .int x :: st => (jsw (.lookupswitch d ps) x).bind fun o => (jtgt pc o).bind fun t => jgo t ls st μ
    | _ => none
  | .iinc k n => (ls[k]?).bind fun v => match v with
    | .int x => (jset ls k (.int (x + Int32.ofInt n))).bind fun ls' => jgo (pc + 3) ls' st μ
    | _ => none
  | .ireturn => match st with
    | [.int x] => if jrf rc x = true then some (.inr (.inl (some (.int x), μ))) else none
    | _ => none
  | .lreturn => match st with
    | [.long x] => if rc = 2 then some (.inr (.inl (some (.long x), μ))) else none
    | _ => none
  | .areturn => match st with
    | [v] => if rc = 3 ∧ jisref v = true then some (.inr (.inl (some v, μ))) else none
    | _ => none
  | .return_ => match st with
    | [] => if rc = 0 then some (.inr (.inl (none, μ))) else none
    | _ => none
  | .checkcast k => (RS k).bind fun q => if ¬ q.2.2.2.2 = 30 then none else match st with
    | v :: st => (jat μ v).bind fun t => if t.2.1 = q.2.2.1 ∧ (t.2.1 = 20 ∨ t.2.1 = 22) then jgo (pc + 3) ls (v :: st) μ else none
    | _ => none
  | .invokevirtual k => jinv 1 (RS k) pc ls st μ
  | .invokespecial k => jinv 3 (RS k) pc ls st μ
  | .invokestatic k => jinv 2 (RS k) pc ls st μ
  | _ => none
/-- a method's locals at its entry -/
def jentry (n : Nat) (args : List Value) : List Value := args ++ List.replicate (n - args.length) (.retAddr 0)
/-- a run of n steps at most, d calls deep at most -/
def jrun : Nat → Nat → Nat → Nat → List Value → List Value → jM → Option (Option Value × jM)
  | 0, _, _, _, _, _, _ => none
  | n + 1, d, mi, pc, ls, st, μ => (gPG mi pc).bind fun i => (jstep (gRS mi) (gKV mi) (gRC mi) (gIK mi) i pc ls st μ).bind fun o => match o with
    | .inl (pc', ls', st', μ') => jrun n d mi pc' ls' st' μ'
    | .inr (.inl r) => some r
    | .inr (.inr (c, as, rest)) => match d with
      | 0 => none
      | d' + 1 => (if c = 0 then some (none, μ)
          else if c = 1 then (match as with | [v, .int sp, w, .int dp, .int k] => (jcp μ v sp w dp k).map fun μ' => (none, μ') | _ => none)
          else if c = 2 then (match as with | [v] => (jcl μ v).map fun p => (some p.1, p.2) | _ => none)
          else jrun n d' c 0 (jentry (gML c) as) [] μ).bind fun p => jrun n (d' + 1) mi (pc + 3) ls (p.1.toList ++ rest) p.2
/-- a call, by what is said of the runs of a method -/
def jcall (run : Nat → List Value → jM → Option (Option Value × jM)) (c : Nat) (as : List Value) (μ : jM) : Option (Option Value × jM) :=
  if c = 0 then some (none, μ)
  else if c = 1 then (match as with | [v, .int sp, w, .int dp, .int k] => (jcp μ v sp w dp k).map fun μ' => (none, μ') | _ => none)
  else if c = 2 then (match as with | [v] => (jcl μ v).map fun p => (some p.1, p.2) | _ => none)
  else run c (jentry (gML c) as) μ
def jcont (run : Nat → Nat → Nat → List Value → List Value → jM → Option (Option Value × jM)) (d mi pc : Nat) (ls : List Value) (μ : jM) (o : jO) : Option (Option Value × jM) := match o with
  | .inl (pc', ls', st', μ') => run d mi pc' ls' st' μ'
  | .inr (.inl r) => some r
  | .inr (.inr (c, as, rest)) => match d with
    | 0 => none
    | d' + 1 => (jcall (fun c ls μ => run d' c 0 ls [] μ) c as μ).bind fun p => run (d' + 1) mi (pc + 3) ls (p.1.toList ++ rest) p.2
theorem jrun_succ (n d mi pc : Nat) (ls st : List Value) (μ : jM) : jrun (n + 1) d mi pc ls st μ = (gPG mi pc).bind fun i => (jstep (gRS mi) (gKV mi) (gRC mi) (gIK mi) i pc ls st μ).bind fun o => jcont (jrun n) d mi pc ls μ o := by
  rw [jrun]
  congr 1
theorem jcont_mono {run run' : Nat → Nat → Nat → List Value → List Value → jM → Option (Option Value × jM)} (h : ∀ d mi pc ls st μ r, run d mi pc ls st μ = some r → run' d mi pc ls st μ = some r) {d mi pc : Nat} {ls : List Value} {μ : jM} {o : jO} {r : Option Value × jM} (hr : jcont run d mi pc ls μ o = some r) : jcont run' d mi pc ls μ o = some r := by
  match o with
  | .inl (pc', ls', st', μ') => exact h _ _ _ _ _ _ _ hr
  | .inr (.inl q) => exact hr
  | .inr (.inr (c, as, rest)) =>
    match d with
    | 0 => exact hr
    | d' + 1 =>
      simp only [jcont, Option.bind_eq_some_iff] at hr ⊢
      obtain ⟨p, h1, h2⟩ := hr
      refine ⟨p, ?_, h _ _ _ _ _ _ _ h2⟩
      unfold jcall at h1 ⊢
      split
      · rename_i e; rw [if_pos e] at h1; exact h1
      · rename_i e; rw [if_neg e] at h1
        split
        · rename_i e; rw [if_pos e] at h1; exact h1
        · rename_i e; rw [if_neg e] at h1
          split
          · rename_i e; rw [if_pos e] at h1; exact h1
          · rename_i e; rw [if_neg e] at h1
            exact h _ _ _ _ _ _ _ h1
theorem jrun_mono1 : ∀ (n d mi pc : Nat) (ls st : List Value) (μ : jM) (r : Option Value × jM), jrun n d mi pc ls st μ = some r → jrun (n + 1) d mi pc ls st μ = some r
  | 0, _, _, _, _, _, _, _, h => by simp [jrun] at h
  | n + 1, d, mi, pc, ls, st, μ, r, h => by
    rw [jrun_succ] at h ⊢
    simp only [Option.bind_eq_some_iff] at h ⊢
    obtain ⟨i, h1, o, h2, h3⟩ := h
    exact ⟨i, h1, o, h2, jcont_mono (jrun_mono1 n) h3⟩
theorem jrun_mono {n m d mi pc : Nat} {ls st : List Value} {μ : jM} {r : Option Value × jM} (hnm : n ≤ m) (h : jrun n d mi pc ls st μ = some r) : jrun m d mi pc ls st μ = some r := by
  induction hnm with
  | refl => exact h
  | step _ ih => exact jrun_mono1 _ _ _ _ _ _ _ _ ih

/-- what a run comes to, whatever steps it takes -/
noncomputable def jR (d mi pc : Nat) (ls st : List Value) (μ : jM) : Option (Option Value × jM) :=
  haveI : Decidable (∃ (n : Nat) (r : Option Value × jM), jrun n d mi pc ls st μ = some r) := Classical.propDecidable _
  if h : ∃ (n : Nat) (r : Option Value × jM), jrun n d mi pc ls st μ = some r then some (Classical.choose (Classical.choose_spec h)) else none
theorem jR_of {n d mi pc : Nat} {ls st : List Value} {μ : jM} {r : Option Value × jM} (h : jrun n d mi pc ls st μ = some r) : jR d mi pc ls st μ = some r := by
  have hx : ∃ (n : Nat) (r : Option Value × jM), jrun n d mi pc ls st μ = some r := ⟨n, r, h⟩
  unfold jR
  rw [dif_pos hx]
  have h2 := Classical.choose_spec (Classical.choose_spec hx)
  have h3 := jrun_mono (Nat.le_max_left n (Classical.choose hx)) h
  have h4 := jrun_mono (Nat.le_max_right n (Classical.choose hx)) h2
  rw [h3] at h4
  exact h4.symm
theorem jR_ex {d mi pc : Nat} {ls st : List Value} {μ : jM} {r : Option Value × jM} (h : jR d mi pc ls st μ = some r) : ∃ n, jrun n d mi pc ls st μ = some r := by
  unfold jR at h
  split at h
  · rename_i hx
    cases h
    exact ⟨_, Classical.choose_spec (Classical.choose_spec hx)⟩
  · cases h
/-- a call of a method d calls deep at most -/
noncomputable def jC (d c : Nat) (as : List Value) (μ : jM) : Option (Option Value × jM) := jcall (fun c ls μ => jR d c 0 ls [] μ) c as μ
theorem opt_ext {α : Type} {a b : Option α} (h1 : ∀ r, a = some r → b = some r) (h2 : ∀ r, b = some r → a = some r) : a = b := by
  cases a with
  | none =>
    cases b with
    | none => rfl
    | some r => exact h2 r rfl
  | some r => exact (h1 r rfl).symm
theorem jcont_ex {d mi pc : Nat} {ls : List Value} {μ : jM} {o : jO} {r : Option Value × jM} (h : jcont jR d mi pc ls μ o = some r) : ∃ n, jcont (jrun n) d mi pc ls μ o = some r := by
  match o with
  | .inl (pc', ls', st', μ') => exact jR_ex h
  | .inr (.inl q) => exact ⟨0, h⟩
  | .inr (.inr (c, as, rest)) =>
    match d with
    | 0 => exact ⟨0, h⟩
    | d' + 1 =>
      simp only [jcont, Option.bind_eq_some_iff] at h ⊢
      obtain ⟨p, h1, h2⟩ := h
      obtain ⟨n2, h2⟩ := jR_ex h2
      by_cases e0 : c = 0
      · refine ⟨n2, p, ?_, h2⟩; simpa [jcall, e0] using h1
      · by_cases e1 : c = 1
        · refine ⟨n2, p, ?_, h2⟩; simpa [jcall, e0, e1] using h1
        · by_cases e2 : c = 2
          · refine ⟨n2, p, ?_, h2⟩; simpa [jcall, e0, e1, e2] using h1
          · simp only [jcall, e0, e1, e2, if_false] at h1 ⊢
            obtain ⟨n1, h1⟩ := jR_ex h1
            exact ⟨max n1 n2, p, jrun_mono (Nat.le_max_left _ _) h1, jrun_mono (Nat.le_max_right _ _) h2⟩
theorem jR_step (d mi pc : Nat) (ls st : List Value) (μ : jM) : jR d mi pc ls st μ = (gPG mi pc).bind fun i => (jstep (gRS mi) (gKV mi) (gRC mi) (gIK mi) i pc ls st μ).bind fun o => jcont jR d mi pc ls μ o := by
  refine opt_ext (fun r h => ?_) (fun r h => ?_)
  · obtain ⟨n, h⟩ := jR_ex h
    cases n with
    | zero => simp [jrun] at h
    | succ n =>
      rw [jrun_succ] at h
      simp only [Option.bind_eq_some_iff] at h ⊢
      obtain ⟨i, h1, o, h2, h3⟩ := h
      exact ⟨i, h1, o, h2, jcont_mono (fun _ _ _ _ _ _ _ h => jR_of h) h3⟩
  · simp only [Option.bind_eq_some_iff] at h
    obtain ⟨i, h1, o, h2, h3⟩ := h
    obtain ⟨n, h3⟩ := jcont_ex h3
    refine jR_of (n := n + 1) ?_
    rw [jrun_succ]
    simp only [Option.bind_eq_some_iff]
    exact ⟨i, h1, o, h2, h3⟩
