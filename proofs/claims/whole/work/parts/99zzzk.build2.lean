/-! CONSTRUCTORS: arrays of arrays -/
def f2L (p ko ki n m : Nat) (L : Nat → Nat × Nat) (o : Nat) : Nat × Nat := if o < p then L o else if o = p then (ko, n) else (ki, m)
def f2I (p : Nat) (I : Nat → Nat → Int32) (o j : Nat) : Int32 := if o < p then I o j else 0
def f2R (p i : Nat) (R : Nat → Nat → Option Nat) (o j : Nat) : Option Nat := if o < p then R o j else if o = p ∧ j < i then some (p + 1 + j) else none
def f3L (p kt ko ki n m r : Nat) (L : Nat → Nat × Nat) (o : Nat) : Nat × Nat := if o < p then L o else if o = p then (kt, n) else if (o - p - 1) % (1 + m) = 0 then (ko, m) else (ki, r)
def f3R (p i m : Nat) (R : Nat → Nat → Option Nat) (o j : Nat) : Option Nat := if o < p then R o j else if o = p then (if j < i then some (p + 1 + j * (1 + m)) else none) else if (o - p - 1) % (1 + m) = 0 ∧ j < m then some (o + 1 + j) else none
section BLDM
variable {μ : jM} {p p' W W' k n w o j t m r ko ki kt : Nat} {L L' : Nat → Nat × Nat} {I I' : Nat → Nat → Int32} {R R' : Nat → Nat → Option Nat} {v : Int32}
theorem bld_congr (hp : p = p') (hW : W = W') (hL : ∀ o, o < p → L o = L' o) (hI : ∀ o j, o < p → I o j = I' o j) (hR : ∀ o j, o < p → R o j = R' o j) : bld μ p W L I R = bld μ p' W' L' I' R' := by
  subst hp
  subst hW
  unfold bld
  refine Prod.ext rfl (Prod.ext ?_ (Prod.ext ?_ (Prod.ext ?_ rfl)))
  · funext a
    show (if jsz μ ≤ a ∧ a < jsz μ + p then some (L (a - jsz μ)) else μ.2.1 a) = if jsz μ ≤ a ∧ a < jsz μ + p then some (L' (a - jsz μ)) else μ.2.1 a
    by_cases e : jsz μ ≤ a ∧ a < jsz μ + p
    · rw [if_pos e, if_pos e, hL _ (by omega)]
    · rw [if_neg e, if_neg e]
  · funext a j
    show (if jsz μ ≤ a ∧ a < jsz μ + p then I (a - jsz μ) j else μ.2.2.1 a j) = if jsz μ ≤ a ∧ a < jsz μ + p then I' (a - jsz μ) j else μ.2.2.1 a j
    by_cases e : jsz μ ≤ a ∧ a < jsz μ + p
    · rw [if_pos e, if_pos e, hI _ _ (by omega)]
    · rw [if_neg e, if_neg e]
  · funext a j
    show (if jsz μ ≤ a ∧ a < jsz μ + p then (R (a - jsz μ) j).map (fun t => jsz μ + t) else μ.2.2.2.1 a j) = if jsz μ ≤ a ∧ a < jsz μ + p then (R' (a - jsz μ) j).map (fun t => jsz μ + t) else μ.2.2.2.1 a j
    by_cases e : jsz μ ≤ a ∧ a < jsz μ + p
    · rw [if_pos e, if_pos e, hR _ _ (by omega)]
    · rw [if_neg e, if_neg e]
theorem bld_fill2 : ∀ i, jfill2 (bld μ p W L I R) ko ki n m i = bld μ (p + 1 + i) (W + n + i * m) (f2L p ko ki n m L) (f2I p I) (f2R p i R)
  | 0 => by
    show jnew (bld μ p W L I R) ko n n = _
    rw [bld_new]
    refine bld_congr rfl (by omega) (fun o ho => ?_) (fun o j ho => ?_) (fun o j ho => ?_)
    · unfold f2L
      by_cases e : o = p
      · rw [if_pos e, if_neg (by omega), if_pos e]
      · rw [if_neg e, if_pos (by omega)]
    · unfold f2I
      by_cases e : o = p
      · rw [if_pos e, if_neg (by omega)]
      · rw [if_neg e, if_pos (by omega)]
    · unfold f2R
      by_cases e : o = p
      · rw [if_pos e, if_neg (by omega), if_neg (by omega)]
      · rw [if_neg e, if_pos (by omega)]
  | i + 1 => by
    show jsetR (jnew (jfill2 (bld μ p W L I R) ko ki n m i) ki m m) (jsz μ + p) i (some (jsz μ + p + 1 + i)) = _
    rw [bld_fill2 i, bld_new, show jsz μ + p + 1 + i = jsz μ + (p + 1 + i) by omega, bld_setR (by omega)]
    refine bld_congr (by omega) (by rw [Nat.succ_mul]; omega) (fun o ho => ?_) (fun o j ho => ?_) (fun o j ho => ?_)
    · unfold f2L
      by_cases e : o = p + 1 + i
      · rw [if_pos e, if_neg (by omega), if_neg (by omega)]
      · rw [if_neg e]
    · unfold f2I
      by_cases e : o = p + 1 + i
      · rw [if_pos e, if_neg (by omega)]
      · rw [if_neg e]
    · unfold f2R
      by_cases e : o = p ∧ j = i
      · rw [if_pos e, if_neg (by omega), if_pos ⟨e.1, by omega⟩, e.2]
      · rw [if_neg e]
        by_cases e2 : o = p + 1 + i
        · rw [if_pos e2, if_neg (by omega), if_neg (by omega)]
        · rw [if_neg e2]
          by_cases e3 : o < p
          · rw [if_pos e3, if_pos e3]
          · rw [if_neg e3, if_neg e3]
            by_cases e4 : o = p ∧ j < i
            · rw [if_pos e4, if_pos ⟨e4.1, by omega⟩]
            · rw [if_neg e4, if_neg (fun q => e4 ⟨q.1, by have := q.2; have : j ≠ i := fun z => e ⟨q.1, z⟩; omega⟩)]
theorem bld_one : jnew μ k n w = bld μ 1 w (fun _ => (k, n)) (fun _ _ => 0) (fun _ _ => none) := by
  unfold jnew bld
  refine Prod.ext rfl (Prod.ext ?_ (Prod.ext ?_ (Prod.ext ?_ rfl)))
  · funext a
    show (if a = jsz μ then some (k, n) else μ.2.1 a) = if jsz μ ≤ a ∧ a < jsz μ + 1 then some (k, n) else μ.2.1 a
    by_cases e : a = jsz μ
    · rw [if_pos e, if_pos (by omega)]
    · rw [if_neg e, if_neg (by omega)]
  · funext a j
    show (if a = jsz μ then (0 : Int32) else μ.2.2.1 a j) = if jsz μ ≤ a ∧ a < jsz μ + 1 then (0 : Int32) else μ.2.2.1 a j
    by_cases e : a = jsz μ
    · rw [if_pos e, if_pos (by omega)]
    · rw [if_neg e, if_neg (by omega)]
  · funext a j
    show (if a = jsz μ then none else μ.2.2.2.1 a j) = if jsz μ ≤ a ∧ a < jsz μ + 1 then none else μ.2.2.2.1 a j
    by_cases e : a = jsz μ
    · rw [if_pos e, if_pos (by omega)]
    · rw [if_neg e, if_neg (by omega)]
/-- a field set to a new one, in the object at o -/
theorem bld_pR {kd sl : Nat} (ho : o < p) (hk : (L o).1 = kd) (hkd : kd < 14) (e : ∀ (μ : jM) (a : Nat) (w : Value), jpR μ kd sl (.ref a) w = if jk μ a = kd ∧ jisref w = true then some (jsetR μ a sl (jun w)) else none) : jpR (bld μ p W L I R) kd sl (.ref (jsz μ + o)) (.ref (jsz μ + t)) = some (bld μ p W L I (fun o' j' => if o' = o ∧ j' = sl then some t else R o' j')) := by
  rw [e, if_pos ⟨by rw [bld_k ho]; exact hk, ir_ref⟩]
  show some (jsetR _ _ _ (some (jsz μ + t))) = _
  rw [bld_setR ho]
end BLDM
