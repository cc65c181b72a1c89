/-! WHAT EACH CALL DOES, on what is held: the board; the image; the tape; clashes; whether the merge is the latest; sheets -/
abbrev SG : Type := PB × Option PB × List Nat × List CL × Bool × (Nat → Int32 × List Int32)
/-- a small number among n -/
def ix (n : Nat) (x : Int32) : Option Nat := if x < N 0 then none else if x < N n then some x.toNatClampNeg else none
theorem ix_some {n i : Nat} {x : Int32} (hn : n < 2147483648) (h : ix n x = some i) : x = N i ∧ i < n := by
  unfold ix at h
  split at h
  · cases h
  · rename_i h0
    obtain ⟨a, ha, rfl⟩ := N_of h0
    split at h
    · rename_i h1
      cases h
      rw [N_nat ha]
      rw [N_lt ha hn] at h1
      exact ⟨rfl, h1⟩
    · cases h
theorem ix_N {n i : Nat} (hn : n < 2147483648) (h : i < n) : ix n (N i) = some i := by
  unfold ix
  rw [if_neg (by rw [N_lt (by omega) (by omega)]; omega), if_pos (by rw [N_lt (by omega) hn]; exact h), N_nat (by omega)]
theorem ix_none {n : Nat} {x : Int32} (hn : n < 2147483648) (h : ix n x = none) : x < N 0 ∨ ¬ x < N n := by
  unfold ix at h
  split at h
  · rename_i h0; exact Or.inl h0
  · split at h
    · cases h
    · rename_i h1; exact Or.inr h1
def cix (σ : SG) (m : Nat) (g r c : Int32) : Option (Nat × Nat × Nat) := (ix m g).bind fun g => (ix (σ.1.1 g).length r).bind fun r => (ix 3 c).map fun c => (g, r, c)
abbrev aBAD : Int32 := -(N 2)
abbrev aSTATE : Int32 := -(N 3)
abbrev aFULL : Int32 := -(N 4)
abbrev aGONE : Int32 := -(N 11)
abbrev aOUT : Int32 := -(N 12)
abbrev aSORT : Int32 := -(N 13)
abbrev aLITTLE : Int32 := -(N 14)
/-- clashes forgotten -/
def fgt (σ : SG) : SG := (σ.1, σ.2.1, σ.2.2.1, [], false, σ.2.2.2.2.2)
/-- a change begins -/
def chg (σ : SG) : SG := ((σ.1.1, σ.1.2.1, (σ.1.1 :: σ.1.2.2).take 6), σ.2.1, σ.2.2.1, [], false, σ.2.2.2.2.2)
/-- a grid is another one now -/
def stg (σ : SG) (i : Nat) (v : DG) : SG := ((updf σ.1.1 i v, σ.1.2), σ.2)
def stp (σ : SG) (t : List Nat) : SG := (σ.1, σ.2.1, t, σ.2.2.2)
def scl (σ : SG) (l : List CL) (m : Bool) : SG := (σ.1, σ.2.1, σ.2.2.1, l, m, σ.2.2.2.2.2)
def ssh (σ : SG) (s : Nat) (v : Int32 × List Int32) : SG := (σ.1, σ.2.1, σ.2.2.1, σ.2.2.2.1, σ.2.2.2.2.1, updf σ.2.2.2.2.2 s v)
/-- whether a number is from least to most -/
def isB (v l m : Int32) : Prop := ¬ v < l ∧ ¬ m < v
abbrev RES : Type := Int32 × SG
def o_feed (σ : SG) (n a b c d e : Int32) : RES :=
  if n < N 1 ∨ N 5 < n then (aBAD, σ)
  else if ∀ v, v ∈ [a, b, c, d, e] → ¬ v < N 0 ∧ ¬ N 255 < v then
    (if N (40 - σ.2.2.1.length) < n then (aFULL, σ)
    else (N (σ.2.2.1 ++ ([a, b, c, d, e].take n.toNatClampNeg).map Int32.toNatClampNeg).length, stp σ (σ.2.2.1 ++ ([a, b, c, d, e].take n.toNatClampNeg).map Int32.toNatClampNeg)))
  else (aBAD, σ)
def pWr (σ : SG) (g : Nat) : Bool × List T3 × Nat × Int32 × Ex := pTx (kyG (σ.1.1 g)) (lexx 40 0 σ.2.2.1)
def o_write (σ : SG) (g r c : Int32) : RES := match cix σ 3 g r c with
  | none => (aBAD, σ)
  | some q => if (pWr σ q.1).1 = true then (N (pWr σ q.1).2.2.1, stg (chg (stp σ [])) q.1 (lset (σ.1.1 q.1) (some q.2.1) q.2.2 (fun w => (N (pWr σ q.1).2.2.1, (pWr σ q.1).2.2.2.1, if (pWr σ q.1).2.2.1 = 2 then (tks (pWr σ q.1).2.2.2.2).map tcan else [], w.2.2.2))))
    else (-(N 100) - N (hs (pWr σ q.1).2.1), stp σ [])
def o_row (σ : SG) (g a k : Int32) : RES := match ix 3 g with
  | none => (aBAD, σ)
  | some g => match ix ((σ.1.1 g).length + 1) a with
    | none => (aBAD, σ)
    | some a => if k < N 1 ∨ N 99 < k then (aBAD, σ) else if (lfind k (σ.1.1 g)).isSome = true then (aSTATE, σ) else if 8 ≤ (σ.1.1 g).length then (aFULL, σ)
      else (N ((σ.1.1 g).length + 1), stg (chg σ) g ((σ.1.1 g).insertIdx a (k, zc [], zc [], zc [])))
def rix (σ : SG) (g r : Int32) : Option (Nat × Nat) := (ix 3 g).bind fun g => (ix (σ.1.1 g).length r).map fun r => (g, r)
def o_drop (σ : SG) (g r : Int32) : RES := match rix σ g r with
  | none => (aBAD, σ)
  | some q => (keyO (σ.1.1 q.1) q.2, stg (chg σ) q.1 ((σ.1.1 q.1).eraseIdx q.2))
def o_move (σ : SG) (g r t : Int32) : RES := match rix σ g r with
  | none => (aBAD, σ)
  | some q => match ix (σ.1.1 q.1).length t with
    | none => (aBAD, σ)
    | some t => (keyO (lmove (σ.1.1 q.1) q.2 t) t, stg (chg σ) q.1 (lmove (σ.1.1 q.1) q.2 t))
def o_note (σ : SG) (g r c v : Int32) : RES := match cix σ 3 g r c with
  | none => (aBAD, σ)
  | some q => if v < N 0 ∨ N 99 < v then (aBAD, σ) else ((cO [] (σ.1.1 q.1) (some q.2.1) q.2.2).2.2.2, stg (chg σ) q.1 (lset (σ.1.1 q.1) (some q.2.1) q.2.2 (fun w => (w.1, w.2.1, w.2.2.1, v))))
/-- the key some rows below -/
def kBel {φ : Type} (G : List (RW φ)) (k : Int32) (n : Nat) : Int32 := match lfind k G with
  | some i => keyO G (i + n)
  | none => N 0
def lowT (G : DG) (n : Nat) (t : Tk) : Tk := if t.1 = N 114 then tcan (t.1, t.2.1, kBel G t.2.2 n) else t
def pFill (G : DG) (x : DC) (r c : Nat) : Nat → DG
  | 0 => G
  | m + 1 => lset (pFill G x r c m) (some (r + (m + 1))) c (fun w => (x.1, x.2.1, x.2.2.1.map (lowT G (m + 1)), w.2.2.2))
def o_fill (σ : SG) (g r c n : Int32) : RES := match cix σ 3 g r c with
  | none => (aBAD, σ)
  | some q => if n < N 1 ∨ N 7 < n then (aBAD, σ) else (N (min n.toNatClampNeg ((σ.1.1 q.1).length - 1 - q.2.1)), stg (chg σ) q.1 (pFill (σ.1.1 q.1) (cO [] (σ.1.1 q.1) (some q.2.1) q.2.2) q.2.1 q.2.2 (min n.toNatClampNeg ((σ.1.1 q.1).length - 1 - q.2.1))))
def o_like (σ : SG) (g o : Int32) : RES := match ix 3 g with
  | none => (aBAD, σ)
  | some g => match ix 4 o with
    | none => (aBAD, σ)
    | some o => if g = o then (aBAD, σ) else (N (σ.1.1 o).length, stg (chg σ) g (σ.1.1 o))
noncomputable def o_told (σ : SG) (g r c w : Int32) : RES := match cix σ 4 g r c with
  | none => (aBAD, σ)
  | some q => if w = N 0 then ((cO [] (σ.1.1 q.1) (some q.2.1) q.2.2).1, σ) else if w = N 1 then ((cO [] (σ.1.1 q.1) (some q.2.1) q.2.2).2.2.2, σ) else if w = N 2 then (keyO (σ.1.1 q.1) q.2.1, σ) else if w = N 3 then ((vlC (σ.1.1 q.1) q.2.1 q.2.2).1, σ) else (aBAD, σ)
def aNO : Int64 := -9223372036854775808
noncomputable def o_value (σ : SG) (g r c : Int32) : Int64 := match cix σ 4 g r c with
  | none => aNO
  | some q => if (vlC (σ.1.1 q.1) q.2.1 q.2.2).1 = N 0 then (vlC (σ.1.1 q.1) q.2.1 q.2.2).2.toInt64 else aNO
def o_print (σ : SG) (g r c k : Int32) : RES := match cix σ 4 g r c with
  | none => (aBAD, σ)
  | some q => if k = NEG then (N (celp (σ.1.1 q.1) (cO [] (σ.1.1 q.1) (some q.2.1) q.2.2)).length, σ) else (((ix (celp (σ.1.1 q.1) (cO [] (σ.1.1 q.1) (some q.2.1) q.2.2)).length k).bind fun i => (celp (σ.1.1 q.1) (cO [] (σ.1.1 q.1) (some q.2.1) q.2.2))[i]?.map N).getD aOUT, σ)
def o_rule (σ : SG) (c k f : Int32) : RES := match ix 3 c with
  | none => (aBAD, σ)
  | some c => match ix 6 k with
    | none => (aBAD, σ)
    | some k => match ix 100 f with
      | none => (aBAD, σ)
      | some f => (N (10 * (σ.1.2.1 c).1 + (σ.1.2.1 c).2), ((σ.1.1, updf σ.1.2.1 c (k, f), σ.1.2.2), σ.2))
def isOfB (k y : Nat) : Bool := y == 0 || k == y || (k == 3 && y == 2) || (k == 4 && (y == 3 || y == 2)) || (k == 5 && y == 1)
theorem isOfB_iff {k y : Nat} : isOfB k y = true ↔ isOfN k y := by
  unfold isOfB isOfN
  simp only [Bool.or_eq_true, Bool.and_eq_true, beq_iff_eq, or_assoc]
def o_taken (σ : SG) (c k : Int32) : RES := match ix 3 c with
  | none => (aBAD, σ)
  | some c => match ix 6 k with
    | none => (aBAD, σ)
    | some k => (if isOfB (σ.1.2.1 c).1 k = true then N (σ.1.2.1 c).2 else aSORT, σ)
def uns0 (c : CL) : CL := (c.1, c.2.1, c.2.2.1, N 0)
noncomputable def o_merge (σ : SG) : RES := match pMerge σ.1.2.1 (σ.1.1 0) (σ.1.1 1) (σ.1.1 2) with
  | none => (aFULL, σ)
  | some W => (N W.2.length, scl (stg σ 3 W.1) (W.2.map uns0) true)
def o_clash (σ : SG) (i w : Int32) : RES := if w < N 0 ∨ N 3 < w then (aBAD, σ) else match (ix σ.2.2.2.1.length i).bind fun i => σ.2.2.2.1[i]? with
  | none => (aOUT, σ)
  | some c => (if w = N 0 then c.1 else if w = N 1 then c.2.1 else if w = N 2 then c.2.2.1 else c.2.2.2, σ)
def sby (y : Int32) : Nat := if y = N 0 then 1 else if y = N 1 then 2 else 0
def o_settle (σ : SG) (i y : Int32) : RES := if y < N 0 ∨ N 2 < y then (aBAD, σ) else match ix σ.2.2.2.1.length i with
  | none => (aOUT, σ)
  | some i => match σ.2.2.2.1[i]? with
    | none => (aOUT, σ)
    | some c => if c.2.2.2 = N 1 then (aSTATE, σ) else (N (unsN (σ.2.2.2.1.set i (c.1, c.2.1, c.2.2.1, N 1))), scl (stg σ 3 (pSet (σ.1.1 3) (σ.1.1 (sby y)) c.1 c.2.1 c.2.2.1)) (σ.2.2.2.1.set i (c.1, c.2.1, c.2.2.1, N 1)) σ.2.2.2.2.1)
def o_take (σ : SG) : RES := if σ.2.2.2.2.1 = true ∧ unsN σ.2.2.2.1 = 0 then (N (σ.1.1 3).length, stg (stg (stg (chg σ) 0 (σ.1.1 3)) 1 (σ.1.1 3)) 2 (σ.1.1 3)) else (aSTATE, σ)
def o_undo (σ : SG) : RES := match σ.1.2.2 with
  | [] => (aSTATE, σ)
  | hd :: tl => (N tl.length, fgt ((fun g => if g < 3 then hd g else σ.1.1 g, σ.1.2.1, tl), σ.2))
noncomputable def o_exch (σ : SG) : RES := match pMerge σ.1.2.1 (σ.1.1 0) (σ.1.1 1) (σ.1.1 2), pMerge σ.1.2.1 (σ.1.1 0) (σ.1.1 2) (σ.1.1 1) with
  | some W, some V => (N (unls W.1 V.1 (W.1.length * 3)), σ)
  | _, _ => (aFULL, σ)
/-- the next number drawn -/
def zn (z : Int32) : Int32 := z * N 1103515245 + N 12345
def zb (z : Int32) (n : Nat) : Nat := (z.toUInt32 >>> 9).toNat % n
def dset (G : DG) (z : Int32) : DG := lset G (some (zb z G.length)) (zb (zn z) 3) (fun w => (N 1, N (zb (zn (zn z)) 10), [], w.2.2.2))
def dstep (s : Int32 × DG × DG) : Int32 × DG × DG :=
  if zb (zn s.1) 2 = 0 then (if s.2.1.length = 0 then (zn s.1, s.2) else (zn (zn (zn (zn s.1))), dset s.2.1 (zn (zn s.1)), s.2.2))
  else (if s.2.2.length = 0 then (zn s.1, s.2) else (zn (zn (zn (zn s.1))), s.2.1, dset s.2.2 (zn (zn s.1))))
/-- a step n times (apart from what the step is: the kernel must not look into it) -/
def itn {α : Type} (f : α → α) : Nat → α → α
  | 0, s => s
  | n + 1, s => itn f n (f s)
theorem itn_zero {α : Type} (f : α → α) (s : α) : itn f 0 s = s := rfl
theorem itn_succ {α : Type} (f : α → α) (n : Nat) (s : α) : itn f (n + 1) s = itn f n (f s) := rfl
def dits (n : Nat) (s : Int32 × DG × DG) : Int32 × DG × DG := itn dstep n s
theorem dits_zero (s : Int32 × DG × DG) : dits 0 s = s := itn_zero dstep s
theorem dits_succ (n : Nat) (s : Int32 × DG × DG) : dits (n + 1) s = dits n (dstep s) := itn_succ dstep n s
/-- how many clashes, where it was drawn n times -/
noncomputable def pDraw (σ : SG) (z : Int32) (n : Nat) : Option Nat := (pMerge σ.1.2.1 (σ.1.1 0) (dits n (z, σ.1.1 1, σ.1.1 2)).2.1 (dits n (z, σ.1.1 1, σ.1.1 2)).2.2).map fun W => W.2.length
noncomputable def o_drawn (σ : SG) (z n : Int32) : RES := match ix 21 n with
  | none => (aBAD, σ)
  | some n => (((pDraw σ z n).map N).getD aFULL, σ)
/-- how many of m tries came to 0, if none fell -/
def gfree (D : Nat → Option Nat) : Nat → Option Nat
  | 0 => some 0
  | m + 1 => (gfree D m).bind fun f => (D m).map fun k => if k = 0 then f + 1 else f
theorem gfree_zero {D : Nat → Option Nat} : gfree D 0 = some 0 := rfl
theorem gfree_succ {D : Nat → Option Nat} (m : Nat) : gfree D (m + 1) = (gfree D m).bind fun f => (D m).map fun k => if k = 0 then f + 1 else f := rfl
theorem gfree_le {D : Nat → Option Nat} (m : Nat) : ∀ f : Nat, gfree D m = some f → f ≤ m := by
  induction m with
  | zero =>
    intro f h
    cases h
    exact Nat.le_refl _
  | succ m ih =>
    intro f h
    rw [gfree_succ] at h
    cases e : gfree D m with
    | none => rw [e] at h; cases h
    | some f0 =>
      rw [e] at h
      have := ih f0 e
      simp only [Option.bind_some] at h
      cases e2 : D m with
      | none => rw [e2] at h; cases h
      | some k =>
        rw [e2] at h
        simp only [Option.map_some, Option.some.injEq] at h
        split at h <;> omega
theorem gfree_none {D : Nat → Option Nat} {j : Nat} (k : Nat) (h : gfree D j = none) : gfree D (j + k) = none := by
  induction k with
  | zero => exact h
  | succ k ih =>
    rw [← Nat.add_assoc, gfree_succ, ih]; rfl
/-- how many of some seeds are free of clashes -/
noncomputable def pFree (σ : SG) (z : Int32) (m : Nat) : Option Nat := gfree (fun i => pDraw σ (z + N i) 3) m
noncomputable def o_chance (σ : SG) (z m p : Int32) : RES := match ix 8 (m - N 1) with
  | none => (aBAD, σ)
  | some m => if p < N 0 ∨ N 1 < p then (aBAD, σ) else (((pFree σ z (m + 1)).map fun f => N ((if p = N 0 then f else m + 1) / Nat.gcd f (m + 1))).getD aFULL, σ)
/-- the first value that is otherwise than told -/
noncomputable def fstO (G : DG) (c : Nat) : List Int32 → Nat → Int32
  | [], i => if G.length ≤ i then NEG else N i
  | v :: l, i => if G.length ≤ i then N i else if (vlC G i c).1 = N 0 ∧ (vlC G i c).2 = v then fstO G c l (i + 1) else N i
noncomputable def pRt (σ : SG) (t : List Int32) (c : Nat) : Nat → Option Nat
  | 0 => some 0
  | k + 1 => (pRt σ t c k).bind fun b => (pMerge (updf σ.1.2.1 c (k, (σ.1.2.1 c).2)) (σ.1.1 0) (σ.1.1 1) (σ.1.1 2)).map fun W => if fstO W.1 c t 0 = NEG then b + 2 ^ k else b
noncomputable def o_tells (σ : SG) (s g c w : Int32) : RES := match ix 4 s with
  | none => (aBAD, σ)
  | some s => match ix 3 c with
    | none => (aBAD, σ)
    | some c => match ix 2 w with
      | none => (aBAD, σ)
      | some w => match ix 4 g with
        | none => if w = 0 then (aBAD, σ) else if (σ.2.2.2.2.2 s).1 = NEG then (aGONE, σ) else if 8 < (σ.2.2.2.2.2 s).2.length then (aBAD, σ) else (((pRt σ (σ.2.2.2.2.2 s).2 c 6).map N).getD aFULL, σ)
        | some g => if (σ.2.2.2.2.2 s).1 = NEG then (aGONE, σ) else if 8 < (σ.2.2.2.2.2 s).2.length then (aBAD, σ) else if w = 0 then (fstO (σ.1.1 g) c (σ.2.2.2.2.2 s).2 0, σ) else (((pRt σ (σ.2.2.2.2.2 s).2 c 6).map N).getD aFULL, σ)
noncomputable def o_film (σ : SG) (s g c : Int32) : RES := match ix 4 s with
  | none => (aBAD, σ)
  | some s => match ix 4 g with
    | none => (aBAD, σ)
    | some g => match ix 3 c with
      | none => (aBAD, σ)
      | some c => (N (σ.1.1 g).length, ssh σ s (N 1, (List.range (σ.1.1 g).length).map fun i => (vlC (σ.1.1 g) i c).2))
def o_image (σ : SG) : RES := (N (σ.1.1 3).length, (σ.1, some σ.1, σ.2.2))
def o_back (σ : SG) : RES := match σ.2.1 with
  | none => (aSTATE, σ)
  | some b => (N (b.1 3).length, fgt (b, σ.2))
def o_count (σ : SG) (w : Int32) : RES := match ix 8 w with
  | none => (aBAD, σ)
  | some w => (N (if w < 4 then (σ.1.1 w).length else if w = 4 then σ.2.2.2.1.length else if w = 5 then unsN σ.2.2.2.1 else if w = 6 then σ.1.2.2.length else σ.2.2.1.length), σ)
def o_sheet (σ : SG) (s t n : Int32) : RES := match ix 4 s with
  | none => (aBAD, σ)
  | some s => if t = NEG then (N 1, ssh σ s (NEG, [])) else if t = N 0 ∨ t = N 1 then (if N 40 < n then (aBAD, σ) else if n < N 0 then (aLITTLE, σ) else (N 1, ssh σ s (t, List.replicate n.toNatClampNeg (N 0)))) else (aBAD, σ)
def o_put (σ : SG) (s i v : Int32) : RES := match ix 4 s with
  | none => (aBAD, σ)
  | some s => if (σ.2.2.2.2.2 s).1 = NEG then (aGONE, σ) else match ix (σ.2.2.2.2.2 s).2.length i with
    | none => (aOUT, σ)
    | some i => (N 1, ssh σ s ((σ.2.2.2.2.2 s).1, (σ.2.2.2.2.2 s).2.set i (shv (σ.2.2.2.2.2 s).1 v)))
def lcpy (a b : List Int32) (i j n : Nat) : List Int32 := b.take j ++ ((a.drop i).take n ++ b.drop (j + n))
/-- whether there are n from i on -/
def hix (l : Nat) (i n : Int32) : Option (Nat × Nat) := (ix (l + 1) n).bind fun n => (ix (l + 1 - n) i).map fun i => (i, n)
def o_copy (σ : SG) (s i o j n : Int32) : RES := match ix 4 s with
  | none => (aBAD, σ)
  | some s => match ix 4 o with
    | none => (aBAD, σ)
    | some o => if (σ.2.2.2.2.2 s).1 = NEG ∨ (σ.2.2.2.2.2 o).1 = NEG then (aGONE, σ) else if (σ.2.2.2.2.2 s).1 ≠ (σ.2.2.2.2.2 o).1 then (aSORT, σ) else match hix (σ.2.2.2.2.2 s).2.length i n, hix (σ.2.2.2.2.2 o).2.length j n with
      | some q, some t => (N q.2, ssh σ o ((σ.2.2.2.2.2 o).1, lcpy (σ.2.2.2.2.2 s).2 (σ.2.2.2.2.2 o).2 q.1 t.1 q.2))
      | _, _ => (aOUT, σ)
