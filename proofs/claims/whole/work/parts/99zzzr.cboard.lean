/-! CONSTRUCTORS: the board, the merging -/
section BLDM
variable {μ : jM} {p p' W W' k n w o j t m r ko ki kt s i d kd : Nat} {L L' : Nat → Nat × Nat} {I I' : Nat → Nat → Int32} {R R' : Nat → Nat → Option Nat} {v : Int32}
def LM1 : Nat → Nat × Nat := (kL 7 (kL 1 (fun _ => (7, 0)) LG1) LC1)
def IM1 : Nat → Nat → Int32 := (kI 7 (kI 1 (fun _ _ => 0) IG1) IC1)
def RM1 : Nat → Nat → Option Nat := (zS 1 7 (kR 7 (zS 0 1 (kR 1 (fun _ _ => none) RG1)) RC1))
theorem ct_111 : jC (d + 2) 111 [.ref (jsz μ)] (jnew μ 7 0 11) = some (none, bld μ 12 318 LM1 IM1 RM1) := by
  rw [jC_run (by decide)]
  show jR (d + 2) 111 0 [.ref (jsz μ)] [] (jnew μ 7 0 11) = _
  rw [b111_0, show jnew μ 7 0 11 = bld μ 1 11 (fun _ => (7, 0)) (fun _ _ => 0) (fun _ _ => none) from bld_one]
  rw [cu_87, Option.bind_some]
  show jR (d + 2) 111 12 [.ref (jsz μ)] [.ref (jsz μ + 1), .ref (jsz μ)] _ = _
  rw [b111_12 (hs0 := ir_ref), kt_ref (kd := 7) (by decide) (by decide) rfl, Option.bind_some, cu_74, Option.bind_some]
  show jR (d + 2) 111 23 [.ref (jsz μ)] [.ref (jsz μ + 7), .ref (jsz μ)] _ = _
  rw [b111_23 (hs0 := ir_ref), kt_ref (kd := 7) (by decide) (by decide) rfl, Option.bind_some]
  rfl
theorem cu_111 : jC (d + 2) 111 [.ref (jsz (bld μ p W L I R))] (jnew (bld μ p W L I R) 7 0 11) = some (none, bld μ (p + 12) (W + 318) (kL p L LM1) (kI p I IM1) (kR p R RM1)) := by
  rw [ct_111, bld_app]
def bL0 : Nat → Nat → Nat × Nat
  | 0 => (zL 28 31 18 (kL 25 (kL 19 (kL 13 (kL 7 (kL 1 (fun _ => (3, 0)) LG1) LG1) LG1) LG1) LU1))
  | i + 1 => kL (29 + 6 * i) (bL0 i) LG1
def bI0 : Nat → Nat → Nat → Int32
  | 0 => (zI3 28 (kI 25 (kI 19 (kI 13 (kI 7 (kI 1 (fun _ _ => 0) IG1) IG1) IG1) IG1) IU1))
  | i + 1 => kI (29 + 6 * i) (bI0 i) IG1
def bR0 : Nat → Nat → Nat → Option Nat
  | 0 => (zS 5 28 (zR 28 (zS 4 25 (kR 25 (zS 3 19 (kR 19 (zS 2 13 (kR 13 (zS 1 7 (kR 7 (zS 0 1 (kR 1 (fun _ _ => none) RG1)) RG1)) RG1)) RG1)) RU1))))
  | i + 1 => zAt 28 i (29 + 6 * i) (kR (29 + 6 * i) (bR0 i) RG1)
theorem bL0_0 : ∀ i, bL0 i 0 = (3, 0)
  | 0 => rfl
  | i + 1 => by
    show kL (29 + 6 * i) (bL0 i) LG1 0 = _
    unfold kL
    rw [if_pos (by omega), bL0_0 i]
theorem bL0_28 : ∀ i, bL0 i 28 = (31, 18)
  | 0 => rfl
  | i + 1 => by
    show kL (29 + 6 * i) (bL0 i) LG1 28 = _
    unfold kL
    rw [if_pos (by omega), bL0_28 i]
theorem bR0_5 : ∀ i, bR0 i 0 5 = some 28
  | 0 => rfl
  | i + 1 => by
    show zAt 28 i (29 + 6 * i) (kR (29 + 6 * i) (bR0 i) RG1) 0 5 = _
    unfold zAt kR
    rw [if_neg (by omega), if_pos (by omega), bR0_5 i]
theorem bL0_g (i : Nat) : (kL (29 + 6 * i) (bL0 i) LG1 (29 + 6 * i)).1 = 6 := by
  unfold kL
  rw [if_neg (Nat.lt_irrefl _), Nat.sub_self]
  rfl
theorem kl_lt (h : o < p) : kL p L L' o = L o := if_pos h
theorem bd_head : jR (d + 2) 68 0 [.ref (jsz μ), .retAddr 0] [] (jnew μ 3 0 8) = jR (d + 2) 68 70 [.ref (jsz μ), .int (N 0)] [] (bld μ 29 474 (bL0 0) (bI0 0) (bR0 0)) := by
  rw [b68_0, show jnew μ 3 0 8 = bld μ 1 8 (fun _ => (3, 0)) (fun _ _ => 0) (fun _ _ => none) from bld_one]
  rw [cu_87, Option.bind_some]
  show jR (d + 2) 68 12 [.ref (jsz μ), .retAddr 0] [.ref (jsz μ + 1), .ref (jsz μ)] _ = _
  rw [b68_12 (hs0 := ir_ref), kt_ref (kd := 3) (by decide) (by decide) rfl, Option.bind_some, cu_87, Option.bind_some]
  show jR (d + 2) 68 23 [.ref (jsz μ), .retAddr 0] [.ref (jsz μ + 7), .ref (jsz μ)] _ = _
  rw [b68_23 (hs0 := ir_ref), kt_ref (kd := 3) (by decide) (by decide) rfl, Option.bind_some, cu_87, Option.bind_some]
  show jR (d + 2) 68 34 [.ref (jsz μ), .retAddr 0] [.ref (jsz μ + 13), .ref (jsz μ)] _ = _
  rw [b68_34 (hs0 := ir_ref), kt_ref (kd := 3) (by decide) (by decide) rfl, Option.bind_some, cu_87, Option.bind_some]
  show jR (d + 2) 68 45 [.ref (jsz μ), .retAddr 0] [.ref (jsz μ + 19), .ref (jsz μ)] _ = _
  rw [b68_45 (hs0 := ir_ref), kt_ref (kd := 3) (by decide) (by decide) rfl, Option.bind_some, cu_121, Option.bind_some]
  show jR (d + 2) 68 56 [.ref (jsz μ), .retAddr 0] [.ref (jsz μ + 25), .ref (jsz μ)] _ = _
  rw [b68_56 (hs0 := ir_ref), kt_ref (kd := 3) (by decide) (by decide) rfl, Option.bind_some, kt_new (kd := 3) (by decide) (by decide) rfl, Option.bind_some]
  rfl
theorem bd_g5 : jgR (bld μ (29 + 6 * i) W (bL0 i) (bI0 i) (bR0 i)) 3 5 (.ref (jsz μ)) = some (.ref (jsz μ + 28)) := by
  have k0 : jk (bld μ (29 + 6 * i) W (bL0 i) (bI0 i) (bR0 i)) (jsz μ) = 3 := by
    have := bld_k (μ := μ) (W := W) (L := bL0 i) (I := bI0 i) (R := bR0 i) (show 0 < 29 + 6 * i by omega)
    rw [Nat.add_zero] at this
    rw [this, bL0_0]
  have r5 : jrv (bld μ (29 + 6 * i) W (bL0 i) (bI0 i) (bR0 i)) (jsz μ) 5 = some (jsz μ + 28) := by
    have := bld_rv (μ := μ) (W := W) (L := bL0 i) (I := bI0 i) (R := bR0 i) (j := 5) (show 0 < 29 + 6 * i by omega)
    rw [Nat.add_zero] at this
    rw [this, bR0_5]
    rfl
  rw [gR3, if_pos k0, r5]
  rfl
theorem bd_a28 : jal (bld μ (29 + 6 * i) W (bL0 i) (bI0 i) (bR0 i)) (.ref (jsz μ + 28)) = some (N 18) := by
  have k28 : jk (bld μ (29 + 6 * i) W (bL0 i) (bI0 i) (bR0 i)) (jsz μ + 28) = 31 := by
    rw [bld_k (by omega), bL0_28]
  have a28 := alen_of k28 (by decide)
  rw [bld_l (by omega), bL0_28] at a28
  exact a28
theorem bd_it (hi : i < 18) : jR (d + 2) 68 70 [.ref (jsz μ), .int (N i)] [] (bld μ (29 + 6 * i) W (bL0 i) (bI0 i) (bR0 i)) = jR (d + 2) 68 70 [.ref (jsz μ), .int (N (i + 1))] [] (bld μ (29 + 6 * (i + 1)) (W + 110) (bL0 (i + 1)) (bI0 (i + 1)) (bR0 (i + 1))) := by
  rw [b68_70, bd_g5, Option.bind_some, bd_a28, Option.bind_some, if_pos (by show N i < N 18; rw [N_lt (by omega) (by decide)]; exact hi), Option.bind_some, cu_87, Option.bind_some]
  show jR (d + 2) 68 91 [.ref (jsz μ), .int (N i)] [.ref (jsz μ + (29 + 6 * i)), .int (N i), .ref (jsz μ + 28)] _ = _
  have e28 : kL (29 + 6 * i) (bL0 i) LG1 28 = (31, 18) := by rw [kl_lt (by omega), bL0_28]
  rw [b68_91 (hs0 := ir_ref), ka_arr (by omega) (by rw [e28]; decide) (by rw [e28]; exact hi) (by rw [e28]; decide) (by omega) (by rw [bL0_g, e28]; rfl), Option.bind_some, show (1 : Int32) = N 1 from rfl, N_add]
  rfl
theorem bd_loop : ∀ i, i ≤ 18 → jR (d + 2) 68 70 [.ref (jsz μ), .int (N 0)] [] (bld μ 29 474 (bL0 0) (bI0 0) (bR0 0)) = jR (d + 2) 68 70 [.ref (jsz μ), .int (N i)] [] (bld μ (29 + 6 * i) (474 + 110 * i) (bL0 i) (bI0 i) (bR0 i))
  | 0, _ => rfl
  | i + 1, h => by
    rw [bd_loop i (by omega), bd_it (by omega)]
    rfl
def LB1 : Nat → Nat × Nat := bL0 18
def IB1 : Nat → Nat → Int32 := bI0 18
def RB1 : Nat → Nat → Option Nat := bR0 18
theorem ct_68 : jC (d + 2) 68 [.ref (jsz μ)] (jnew μ 3 0 8) = some (none, bld μ 137 2454 LB1 IB1 RB1) := by
  rw [jC_run (by decide)]
  show jR (d + 2) 68 0 [.ref (jsz μ), .retAddr 0] [] (jnew μ 3 0 8) = _
  rw [bd_head, bd_loop 18 (by decide)]
  rw [b68_70, bd_g5, Option.bind_some, bd_a28, Option.bind_some, if_neg (by decide)]
  rfl
theorem cu_68 : jC (d + 2) 68 [.ref (jsz (bld μ p W L I R))] (jnew (bld μ p W L I R) 3 0 8) = some (none, bld μ (p + 137) (W + 2454) (kL p L LB1) (kI p I IB1) (kR p R RB1)) := by
  rw [ct_68, bld_app]
end BLDM
