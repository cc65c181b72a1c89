/-! CONSTRUCTORS: the class's small ones -/
def kL (p : Nat) (L L' : Nat → Nat × Nat) (o : Nat) : Nat × Nat := if o < p then L o else L' (o - p)
def kI (p : Nat) (I I' : Nat → Nat → Int32) (o j : Nat) : Int32 := if o < p then I o j else I' (o - p) j
def kR (p : Nat) (R R' : Nat → Nat → Option Nat) (o j : Nat) : Option Nat := if o < p then R o j else (R' (o - p) j).map (fun t => p + t)
def zAt (o s t : Nat) (R : Nat → Nat → Option Nat) (o' j : Nat) : Option Nat := if o' = o ∧ j = s then some t else R o' j
section BLDM
variable {μ : jM} {p p' W W' k n w o j t m r ko ki kt s i d kd : Nat} {L L' : Nat → Nat × Nat} {I I' : Nat → Nat → Int32} {R R' : Nat → Nat → Option Nat} {v : Int32}
/-- one behind another -/
theorem bld_app : bld (bld μ p W L I R) p' W' L' I' R' = bld μ (p + p') (W + W') (kL p L L') (kI p I I') (kR p R R') := by
  unfold bld
  refine Prod.ext rfl (Prod.ext ?_ (Prod.ext ?_ (Prod.ext ?_ (Prod.ext ?_ ?_))))
  · funext a
    show (if jsz μ + p ≤ a ∧ a < jsz μ + p + p' then some (L' (a - (jsz μ + p))) else if jsz μ ≤ a ∧ a < jsz μ + p then some (L (a - jsz μ)) else μ.2.1 a) = if jsz μ ≤ a ∧ a < jsz μ + (p + p') then some (if a - jsz μ < p then L (a - jsz μ) else L' (a - jsz μ - p)) else μ.2.1 a
    by_cases e : jsz μ + p ≤ a ∧ a < jsz μ + p + p'
    · rw [if_pos e, if_pos ⟨by omega, by omega⟩, if_neg (by omega), Nat.sub_sub]
    · rw [if_neg e]
      by_cases e2 : jsz μ ≤ a ∧ a < jsz μ + p
      · rw [if_pos e2, if_pos ⟨by omega, by omega⟩, if_pos (by omega)]
      · rw [if_neg e2, if_neg (by omega)]
  · funext a j
    show (if jsz μ + p ≤ a ∧ a < jsz μ + p + p' then I' (a - (jsz μ + p)) j else if jsz μ ≤ a ∧ a < jsz μ + p then I (a - jsz μ) j else μ.2.2.1 a j) = if jsz μ ≤ a ∧ a < jsz μ + (p + p') then (if a - jsz μ < p then I (a - jsz μ) j else I' (a - jsz μ - p) j) else μ.2.2.1 a j
    by_cases e : jsz μ + p ≤ a ∧ a < jsz μ + p + p'
    · rw [if_pos e, if_pos ⟨by omega, by omega⟩, if_neg (by omega), Nat.sub_sub]
    · rw [if_neg e]
      by_cases e2 : jsz μ ≤ a ∧ a < jsz μ + p
      · rw [if_pos e2, if_pos ⟨by omega, by omega⟩, if_pos (by omega)]
      · rw [if_neg e2, if_neg (by omega)]
  · funext a j
    show (if jsz μ + p ≤ a ∧ a < jsz μ + p + p' then (R' (a - (jsz μ + p)) j).map (fun t => jsz μ + p + t) else if jsz μ ≤ a ∧ a < jsz μ + p then (R (a - jsz μ) j).map (fun t => jsz μ + t) else μ.2.2.2.1 a j) = if jsz μ ≤ a ∧ a < jsz μ + (p + p') then (if a - jsz μ < p then R (a - jsz μ) j else (R' (a - jsz μ - p) j).map (fun t => p + t)).map (fun t => jsz μ + t) else μ.2.2.2.1 a j
    by_cases e : jsz μ + p ≤ a ∧ a < jsz μ + p + p'
    · rw [if_pos e, if_pos ⟨by omega, by omega⟩, if_neg (by omega), Nat.sub_sub, Option.map_map]
      refine congrArg (fun q => Option.map q _) ?_
      funext t
      exact Nat.add_assoc ..
    · rw [if_neg e]
      by_cases e2 : jsz μ ≤ a ∧ a < jsz μ + p
      · rw [if_pos e2, if_pos ⟨by omega, by omega⟩, if_pos (by omega)]
      · rw [if_neg e2, if_neg (by omega)]
  · exact Nat.add_assoc ..
  · exact Nat.add_assoc ..
theorem kt_ref (hd : kd ≠ 99) (hp : 0 < p) (hL : (L 0).1 = kd) : jpR (bld μ p W L I R) kd s (.ref (jsz μ)) (.ref (jsz μ + t)) = some (bld μ p W L I (zS s t R)) := by
  have hk : jk (bld μ p W L I R) (jsz μ) = kd := by
    have := bld_k (μ := μ) (W := W) (L := L) (I := I) (R := R) hp
    rw [Nat.add_zero] at this
    rw [this, hL]
  rw [pR_eq hd, if_pos ⟨hk, ir_ref⟩]
  exact congrArg some (bld_setR (o := 0) hp)
theorem kt_new (hd : kd ≠ 99) (hp : 0 < p) (hL : (L 0).1 = kd) : jpR (jnew (bld μ p W L I R) k n w) kd s (.ref (jsz μ)) (.ref (jsz (bld μ p W L I R))) = some (bld μ (p + 1) (W + w) (zL p k n L) (zI3 p I) (zS s p (zR p R))) := by
  rw [bld_new, bld_sz]
  exact kt_ref hd (by omega) (by show (if 0 = p then (k, n) else L 0).1 = kd; rw [if_neg (by omega)]; exact hL)
theorem ka_ref (hd : kd ≠ 99) (ho : o < p) (hL : (L o).1 = kd) : jpR (bld μ p W L I R) kd s (.ref (jsz μ + o)) (.ref (jsz μ + t)) = some (bld μ p W L I (zAt o s t R)) := by
  rw [pR_eq hd, if_pos ⟨by rw [bld_k ho]; exact hL, ir_ref⟩]
  exact congrArg some (bld_setR ho)
theorem jel_ne (k : Nat) : jel k ≠ 99 := by
  unfold jel
  repeat' split
  all_goals decide
theorem ka_arr (ho : o < p) (hL : 30 ≤ (L o).1 ∧ (L o).1 < 36) (hk : i < (L o).2) (h9 : (L o).2 < 1000) (ht : t < p) (he : (L t).1 = jel (L o).1) : jsR (bld μ p W L I R) (.ref (jsz μ + o)) (N i) (.ref (jsz μ + t)) = some (bld μ p W L I (zAt o i t R)) := by
  have hb : jokel (bld μ p W L I R) (jk (bld μ p W L I R) (jsz μ + o)) (.ref (jsz μ + t)) = true := by
    have h1 := bld_k (μ := μ) (W := W) (L := L) (I := I) (R := R) ht
    have h2 := jt_of h1 (by rw [he]; exact jel_ne _)
    show (jty _ _).any _ = true
    rw [h2, bld_k ho]
    show ((L t).1 == jel (L o).1) = true
    rw [he]
    exact beq_self_eq_true _
  rw [sR_eq, if_pos ⟨by rw [bld_k ho]; exact hL, by rw [jinb_N (by omega), bld_l ho]; exact decide_eq_true hk, hb⟩, N_nat (by omega)]
  exact congrArg some (bld_setR ho)
def LG1 : Nat → Nat × Nat := (zL 5 20 24 (zL 4 30 24 (zL 3 20 24 (zL 2 20 24 (zL 1 20 8 (fun _ => (6, 0)))))))
def IG1 : Nat → Nat → Int32 := (zI3 5 (zI3 4 (zI3 3 (zI3 2 (zI3 1 (fun _ _ => 0))))))
def RG1 : Nat → Nat → Option Nat := (zS 5 5 (zR 5 (zS 4 4 (zR 4 (zS 3 3 (zR 3 (zS 2 2 (zR 2 (zS 1 1 (zR 1 (fun _ _ => none)))))))))))
theorem ct_87 : jC (d + 1) 87 [.ref (jsz μ)] (jnew μ 6 0 6) = some (none, bld μ 6 110 LG1 IG1 RG1) := by
  rw [jC_run (by decide)]
  show jR (d + 1) 87 0 [.ref (jsz μ)] [] (jnew μ 6 0 6) = _
  rw [b87_0, show jnew μ 6 0 6 = bld μ 1 6 (fun _ => (6, 0)) (fun _ _ => 0) (fun _ _ => none) from bld_one]
  rw [kt_new (kd := 6) (by decide) (by decide) rfl, Option.bind_some]
  rw [kt_new (kd := 6) (by decide) (by decide) rfl, Option.bind_some]
  rw [kt_new (kd := 6) (by decide) (by decide) rfl, Option.bind_some]
  rw [kt_new (kd := 6) (by decide) (by decide) rfl, Option.bind_some]
  rw [kt_new (kd := 6) (by decide) (by decide) rfl, Option.bind_some]
  rfl
theorem cu_87 : jC (d + 1) 87 [.ref (jsz (bld μ p W L I R))] (jnew (bld μ p W L I R) 6 0 6) = some (none, bld μ (p + 6) (W + 110) (kL p L LG1) (kI p I IG1) (kR p R RG1)) := by
  rw [ct_87, bld_app]
def LA1 : Nat → Nat × Nat := (zL 3 20 960 (zL 2 20 24 (zL 1 20 24 (fun _ => (2, 0)))))
def IA1 : Nat → Nat → Int32 := (zI3 3 (zI3 2 (zI3 1 (fun _ _ => 0))))
def RA1 : Nat → Nat → Option Nat := (zS 4 3 (zR 3 (zS 3 2 (zR 2 (zS 2 1 (zR 1 (fun _ _ => none)))))))
theorem ct_58 : jC (d + 1) 58 [.ref (jsz μ)] (jnew μ 2 0 6) = some (none, bld μ 4 1014 LA1 IA1 RA1) := by
  rw [jC_run (by decide)]
  show jR (d + 1) 58 0 [.ref (jsz μ)] [] (jnew μ 2 0 6) = _
  rw [b58_0, show jnew μ 2 0 6 = bld μ 1 6 (fun _ => (2, 0)) (fun _ _ => 0) (fun _ _ => none) from bld_one]
  rw [kt_new (kd := 2) (by decide) (by decide) rfl, Option.bind_some]
  rw [kt_new (kd := 2) (by decide) (by decide) rfl, Option.bind_some]
  rw [kt_new (kd := 2) (by decide) (by decide) rfl, Option.bind_some]
  rfl
theorem cu_58 : jC (d + 1) 58 [.ref (jsz (bld μ p W L I R))] (jnew (bld μ p W L I R) 2 0 6) = some (none, bld μ (p + 4) (W + 1014) (kL p L LA1) (kI p I IA1) (kR p R RA1)) := by
  rw [ct_58, bld_app]
def LC1 : Nat → Nat × Nat := (zL 4 20 48 (zL 3 20 48 (zL 2 20 48 (zL 1 20 48 (fun _ => (4, 0))))))
def IC1 : Nat → Nat → Int32 := (zI3 4 (zI3 3 (zI3 2 (zI3 1 (fun _ _ => 0)))))
def RC1 : Nat → Nat → Option Nat := (zS 4 4 (zR 4 (zS 3 3 (zR 3 (zS 2 2 (zR 2 (zS 1 1 (zR 1 (fun _ _ => none)))))))))
theorem ct_74 : jC (d + 1) 74 [.ref (jsz μ)] (jnew μ 4 0 5) = some (none, bld μ 5 197 LC1 IC1 RC1) := by
  rw [jC_run (by decide)]
  show jR (d + 1) 74 0 [.ref (jsz μ)] [] (jnew μ 4 0 5) = _
  rw [b74_0, show jnew μ 4 0 5 = bld μ 1 5 (fun _ => (4, 0)) (fun _ _ => 0) (fun _ _ => none) from bld_one]
  rw [kt_new (kd := 4) (by decide) (by decide) rfl, Option.bind_some]
  rw [kt_new (kd := 4) (by decide) (by decide) rfl, Option.bind_some]
  rw [kt_new (kd := 4) (by decide) (by decide) rfl, Option.bind_some]
  rw [kt_new (kd := 4) (by decide) (by decide) rfl, Option.bind_some]
  rfl
theorem cu_74 : jC (d + 1) 74 [.ref (jsz (bld μ p W L I R))] (jnew (bld μ p W L I R) 4 0 5) = some (none, bld μ (p + 5) (W + 197) (kL p L LC1) (kI p I IC1) (kR p R RC1)) := by
  rw [ct_74, bld_app]
def LU1 : Nat → Nat × Nat := (zL 2 20 3 (zL 1 20 3 (fun _ => (8, 0))))
def IU1 : Nat → Nat → Int32 := (zI3 2 (zI3 1 (fun _ _ => 0)))
def RU1 : Nat → Nat → Option Nat := (zS 1 2 (zR 2 (zS 0 1 (zR 1 (fun _ _ => none)))))
theorem ct_121 : jC (d + 1) 121 [.ref (jsz μ)] (jnew μ 8 0 2) = some (none, bld μ 3 8 LU1 IU1 RU1) := by
  rw [jC_run (by decide)]
  show jR (d + 1) 121 0 [.ref (jsz μ)] [] (jnew μ 8 0 2) = _
  rw [b121_0, show jnew μ 8 0 2 = bld μ 1 2 (fun _ => (8, 0)) (fun _ _ => 0) (fun _ _ => none) from bld_one]
  rw [kt_new (kd := 8) (by decide) (by decide) rfl, Option.bind_some]
  rw [kt_new (kd := 8) (by decide) (by decide) rfl, Option.bind_some]
  rfl
theorem cu_121 : jC (d + 1) 121 [.ref (jsz (bld μ p W L I R))] (jnew (bld μ p W L I R) 8 0 2) = some (none, bld μ (p + 3) (W + 8) (kL p L LU1) (kI p I IU1) (kR p R RU1)) := by
  rw [ct_121, bld_app]
def LT1 : Nat → Nat × Nat := (zL 4 20 41 (zL 3 20 41 (zL 2 20 41 (zL 1 20 40 (fun _ => (10, 0))))))
def IT1 : Nat → Nat → Int32 := (zI3 4 (zI3 3 (zI3 2 (zI3 1 (fun _ _ => 0)))))
def RT1 : Nat → Nat → Option Nat := (zS 5 4 (zR 4 (zS 4 3 (zR 3 (zS 3 2 (zR 2 (zS 0 1 (zR 1 (fun _ _ => none)))))))))
theorem ct_129 : jC (d + 1) 129 [.ref (jsz μ)] (jnew μ 10 0 7) = some (none, bld μ 5 170 LT1 IT1 RT1) := by
  rw [jC_run (by decide)]
  show jR (d + 1) 129 0 [.ref (jsz μ)] [] (jnew μ 10 0 7) = _
  rw [b129_0, show jnew μ 10 0 7 = bld μ 1 7 (fun _ => (10, 0)) (fun _ _ => 0) (fun _ _ => none) from bld_one]
  rw [kt_new (kd := 10) (by decide) (by decide) rfl, Option.bind_some]
  rw [kt_new (kd := 10) (by decide) (by decide) rfl, Option.bind_some]
  rw [kt_new (kd := 10) (by decide) (by decide) rfl, Option.bind_some]
  rw [kt_new (kd := 10) (by decide) (by decide) rfl, Option.bind_some]
  rfl
theorem cu_129 : jC (d + 1) 129 [.ref (jsz (bld μ p W L I R))] (jnew (bld μ p W L I R) 10 0 7) = some (none, bld μ (p + 5) (W + 170) (kL p L LT1) (kI p I IT1) (kR p R RT1)) := by
  rw [ct_129, bld_app]
def LS1 : Nat → Nat × Nat := (zL 1 20 40 (fun _ => (9, 0)))
def IS1 : Nat → Nat → Int32 := (zI3 1 (zV 0 0 NEG (fun _ _ => 0)))
def RS1 : Nat → Nat → Option Nat := (zS 2 1 (zR 1 (fun _ _ => none)))
theorem kt_setI {x : Int32} (hd : kd ≠ 99) (hp : 0 < p) (hL : (L 0).1 = kd) : jpI (bld μ p W L I R) kd s 0 (.ref (jsz μ)) x = some (bld μ p W L (zV 0 s x I) R) := by
  have hk : jk (bld μ p W L I R) (jsz μ) = kd := by
    have := bld_k (μ := μ) (W := W) (L := L) (I := I) (R := R) hp
    rw [Nat.add_zero] at this
    rw [this, hL]
  rw [pI_eq hd, if_pos ⟨hk, jfit0⟩]
  exact congrArg some (bld_setI (o := 0) hp)
theorem ct_124 : jC (d + 1) 124 [.ref (jsz μ)] (jnew μ 9 0 3) = some (none, bld μ 2 43 LS1 IS1 RS1) := by
  rw [jC_run (by decide)]
  show jR (d + 1) 124 0 [.ref (jsz μ)] [] (jnew μ 9 0 3) = _
  rw [b124_0, show jnew μ 9 0 3 = bld μ 1 3 (fun _ => (9, 0)) (fun _ _ => 0) (fun _ _ => none) from bld_one]
  rw [kt_setI (kd := 9) (by decide) (by decide) rfl, Option.bind_some]
  rw [kt_new (kd := 9) (by decide) (by decide) rfl, Option.bind_some]
  rfl
theorem cu_124 : jC (d + 1) 124 [.ref (jsz (bld μ p W L I R))] (jnew (bld μ p W L I R) 9 0 3) = some (none, bld μ (p + 2) (W + 43) (kL p L LS1) (kI p I IS1) (kR p R RS1)) := by
  rw [ct_124, bld_app]
def LQ1 : Nat → Nat × Nat := (zL 4 20 40 (zL 3 20 40 (zL 2 20 40 (zL 1 20 40 (fun _ => (11, 0))))))
def IQ1 : Nat → Nat → Int32 := (zI3 4 (zI3 3 (zI3 2 (zI3 1 (fun _ _ => 0)))))
def RQ1 : Nat → Nat → Option Nat := (zS 8 4 (zR 4 (zS 6 3 (zR 3 (zS 5 2 (zR 2 (zS 4 1 (zR 1 (fun _ _ => none)))))))))
theorem cu_146 (hp : 0 < p) : jC (d + 1) 146 [.ref (jsz (bld μ p W L I R)), .ref (jsz μ + t)] (jnew (bld μ p W L I R) 11 0 10) = some (none, bld μ (p + 5) (W + 170) (kL p L LQ1) (kI p I IQ1) (zAt p 0 t (kR p R RQ1))) := by
  rw [jC_run (by decide)]
  show jR (d + 1) 146 0 [.ref (jsz (bld μ p W L I R)), .ref (jsz μ + t)] [] (jnew (bld μ p W L I R) 11 0 10) = _
  generalize e : bld μ p W L I R = ν
  rw [b146_0 (h1 := ir_ref), show jnew ν 11 0 10 = bld ν 1 10 (fun _ => (11, 0)) (fun _ _ => 0) (fun _ _ => none) from bld_one]
  rw [kt_new (kd := 11) (by decide) (by decide) rfl, Option.bind_some]
  rw [kt_new (kd := 11) (by decide) (by decide) rfl, Option.bind_some]
  rw [kt_new (kd := 11) (by decide) (by decide) rfl, Option.bind_some]
  rw [kt_new (kd := 11) (by decide) (by decide) rfl, Option.bind_some]
  rw [← e, bld_app, bld_sz]
  have hl : (kL p L LQ1 p).1 = 11 := by
    unfold kL
    rw [if_neg (Nat.lt_irrefl _), Nat.sub_self]
    rfl
  show (jpR (bld μ (p + 5) (W + 170) (kL p L LQ1) (kI p I IQ1) (kR p R RQ1)) 11 0 (.ref (jsz μ + p)) (.ref (jsz μ + t))).bind _ = _
  rw [ka_ref (kd := 11) (by decide) (by omega) hl, Option.bind_some]
end BLDM
