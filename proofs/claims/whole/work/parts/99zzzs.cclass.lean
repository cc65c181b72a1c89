/-! CONSTRUCTORS: the class itself -/
section BLDM
variable {μ : jM} {p p' W W' k n w o j t m r ko ki kt s i d kd : Nat} {L L' : Nat → Nat × Nat} {I I' : Nat → Nat → Int32} {R R' : Nat → Nat → Option Nat} {v : Int32}
def xL0 : Nat → Nat → Nat × Nat
  | 0 => (zL 333 32 4 (kL 330 (kL 324 (kL 318 (kL 306 (kL 294 (kL 289 (kL 285 (kL 280 (kL 275 (kL 138 (kL 1 (fun _ => (12, 0)) LB1) LB1) LT1) LQ1) LA1) LC1) LM1) LM1) LG1) LG1) LU1))
  | i + 1 => kL (334 + 2 * i) (xL0 i) LS1
def xI0 : Nat → Nat → Nat → Int32
  | 0 => (zI3 333 (kI 330 (kI 324 (kI 318 (kI 306 (kI 294 (kI 289 (kI 285 (kI 280 (kI 275 (kI 138 (kI 1 (fun _ _ => 0) IB1) IB1) IT1) IQ1) IA1) IC1) IM1) IM1) IG1) IG1) IU1))
  | i + 1 => kI (334 + 2 * i) (xI0 i) IS1
def xR0 : Nat → Nat → Nat → Option Nat
  | 0 => (zS 14 333 (zR 333 (zS 12 330 (kR 330 (zS 11 324 (kR 324 (zS 10 318 (kR 318 (zS 9 306 (kR 306 (zS 8 294 (kR 294 (zS 6 289 (kR 289 (zS 5 285 (kR 285 (zS 4 280 (zAt 280 0 275 (kR 280 (zS 3 275 (kR 275 (zS 1 138 (kR 138 (zS 0 1 (kR 1 (fun _ _ => none) RB1)) RB1)) RT1)) RQ1))) RA1)) RC1)) RM1)) RM1)) RG1)) RG1)) RU1))))
  | i + 1 => zAt 333 i (334 + 2 * i) (kR (334 + 2 * i) (xR0 i) RS1)
theorem xL0_0 : ∀ i, xL0 i 0 = (12, 0)
  | 0 => rfl
  | i + 1 => by
    show kL (334 + 2 * i) (xL0 i) LS1 0 = _
    unfold kL
    rw [if_pos (by omega), xL0_0 i]
theorem xL0_333 : ∀ i, xL0 i 333 = (32, 4)
  | 0 => rfl
  | i + 1 => by
    show kL (334 + 2 * i) (xL0 i) LS1 333 = _
    unfold kL
    rw [if_pos (by omega), xL0_333 i]
theorem xR0_14 : ∀ i, xR0 i 0 14 = some 333
  | 0 => rfl
  | i + 1 => by
    show zAt 333 i (334 + 2 * i) (kR (334 + 2 * i) (xR0 i) RS1) 0 14 = _
    unfold zAt kR
    rw [if_neg (by omega), if_pos (by omega), xR0_14 i]
theorem xL0_g (i : Nat) : (kL (334 + 2 * i) (xL0 i) LS1 (334 + 2 * i)).1 = 9 := by
  unfold kL
  rw [if_neg (Nat.lt_irrefl _), Nat.sub_self]
  rfl
theorem kg_ref (hp : 0 < p) (hL : (L 0).1 = 12) (hR : R 0 3 = some t) : jgR (jnew (bld μ p W L I R) k n w) 12 3 (.ref (jsz μ)) = some (.ref (jsz μ + t)) := by
  rw [bld_new]
  have h1 : jk _ (jsz μ) = _ := bld_k (o := 0) (μ := μ) (W := W + w) (L := fun o => if o = p then (k, n) else L o) (I := fun o j => if o = p then 0 else I o j) (R := fun o j => if o = p then none else R o j) (show 0 < p + 1 by omega)
  have h2 : jrv _ (jsz μ) 3 = _ := bld_rv (o := 0) (μ := μ) (j := 3) (W := W + w) (L := fun o => if o = p then (k, n) else L o) (I := fun o j => if o = p then 0 else I o j) (R := fun o j => if o = p then none else R o j) (show 0 < p + 1 by omega)
  rw [if_neg (by omega), hL] at h1
  rw [if_neg (by omega), hR] at h2
  rw [gR12, if_pos h1, h2]
  rfl
theorem cx_head : jR (d + 3) 11 0 [.ref (jsz μ), .retAddr 0] [] (jnew μ 12 0 15) = jR (d + 3) 11 139 [.ref (jsz μ), .int (N 0)] [] (bld μ 334 7342 (xL0 0) (xI0 0) (xR0 0)) := by
  rw [b11_0, show jnew μ 12 0 15 = bld μ 1 15 (fun _ => (12, 0)) (fun _ _ => 0) (fun _ _ => none) from bld_one]
  rw [cu_68, Option.bind_some]
  show jR (d + 3) 11 12 [.ref (jsz μ), .retAddr 0] [.ref (jsz μ + 1), .ref (jsz μ)] _ = _
  rw [b11_12 (hs0 := ir_ref), kt_ref (kd := 12) (by decide) (by decide) rfl, Option.bind_some, cu_68 (d := d), Option.bind_some]
  show jR (d + 3) 11 23 [.ref (jsz μ), .retAddr 0] [.ref (jsz μ + 138), .ref (jsz μ)] _ = _
  rw [b11_23 (hs0 := ir_ref), kt_ref (kd := 12) (by decide) (by decide) rfl, Option.bind_some, cu_129 (d := d + 1), Option.bind_some]
  show jR (d + 3) 11 34 [.ref (jsz μ), .retAddr 0] [.ref (jsz μ + 275), .ref (jsz μ)] _ = _
  rw [b11_34 (hs0 := ir_ref), kt_ref (kd := 12) (by decide) (by decide) rfl, Option.bind_some]
  rw [kg_ref (t := 275) (by decide) rfl rfl, Option.bind_some, cu_146 (d := d + 1) (by decide), Option.bind_some]
  show jR (d + 3) 11 49 [.ref (jsz μ), .retAddr 0] [.ref (jsz μ + 280), .ref (jsz μ)] _ = _
  rw [b11_49 (hs0 := ir_ref), kt_ref (kd := 12) (by decide) (by decide) rfl, Option.bind_some, cu_58 (d := d + 1), Option.bind_some]
  show jR (d + 3) 11 60 [.ref (jsz μ), .retAddr 0] [.ref (jsz μ + 285), .ref (jsz μ)] _ = _
  rw [b11_60 (hs0 := ir_ref), kt_ref (kd := 12) (by decide) (by decide) rfl, Option.bind_some, cu_74 (d := d + 1), Option.bind_some]
  show jR (d + 3) 11 71 [.ref (jsz μ), .retAddr 0] [.ref (jsz μ + 289), .ref (jsz μ)] _ = _
  rw [b11_71 (hs0 := ir_ref), kt_ref (kd := 12) (by decide) (by decide) rfl, Option.bind_some, cu_111 (d := d), Option.bind_some]
  show jR (d + 3) 11 82 [.ref (jsz μ), .retAddr 0] [.ref (jsz μ + 294), .ref (jsz μ)] _ = _
  rw [b11_82 (hs0 := ir_ref), kt_ref (kd := 12) (by decide) (by decide) rfl, Option.bind_some, cu_111 (d := d), Option.bind_some]
  show jR (d + 3) 11 93 [.ref (jsz μ), .retAddr 0] [.ref (jsz μ + 306), .ref (jsz μ)] _ = _
  rw [b11_93 (hs0 := ir_ref), kt_ref (kd := 12) (by decide) (by decide) rfl, Option.bind_some, cu_87 (d := d + 1), Option.bind_some]
  show jR (d + 3) 11 104 [.ref (jsz μ), .retAddr 0] [.ref (jsz μ + 318), .ref (jsz μ)] _ = _
  rw [b11_104 (hs0 := ir_ref), kt_ref (kd := 12) (by decide) (by decide) rfl, Option.bind_some, cu_87 (d := d + 1), Option.bind_some]
  show jR (d + 3) 11 115 [.ref (jsz μ), .retAddr 0] [.ref (jsz μ + 324), .ref (jsz μ)] _ = _
  rw [b11_115 (hs0 := ir_ref), kt_ref (kd := 12) (by decide) (by decide) rfl, Option.bind_some, cu_121 (d := d + 1), Option.bind_some]
  show jR (d + 3) 11 126 [.ref (jsz μ), .retAddr 0] [.ref (jsz μ + 330), .ref (jsz μ)] _ = _
  rw [b11_126 (hs0 := ir_ref), kt_ref (kd := 12) (by decide) (by decide) rfl, Option.bind_some, kt_new (kd := 12) (by decide) (by decide) rfl, Option.bind_some]
  rfl
theorem cx_it (hi : i < 4) : jR (d + 3) 11 139 [.ref (jsz μ), .int (N i)] [] (bld μ (334 + 2 * i) W (xL0 i) (xI0 i) (xR0 i)) = jR (d + 3) 11 139 [.ref (jsz μ), .int (N (i + 1))] [] (bld μ (334 + 2 * (i + 1)) (W + 43) (xL0 (i + 1)) (xI0 (i + 1)) (xR0 (i + 1))) := by
  have k0 : jk (bld μ (334 + 2 * i) W (xL0 i) (xI0 i) (xR0 i)) (jsz μ) = 12 := by
    have := bld_k (μ := μ) (W := W) (L := xL0 i) (I := xI0 i) (R := xR0 i) (show 0 < 334 + 2 * i by omega)
    rw [Nat.add_zero] at this
    rw [this, xL0_0]
  have r5 : jrv (bld μ (334 + 2 * i) W (xL0 i) (xI0 i) (xR0 i)) (jsz μ) 14 = some (jsz μ + 333) := by
    have := bld_rv (μ := μ) (W := W) (L := xL0 i) (I := xI0 i) (R := xR0 i) (j := 14) (show 0 < 334 + 2 * i by omega)
    rw [Nat.add_zero] at this
    rw [this, xR0_14]
    rfl
  have g5 : jgR (bld μ (334 + 2 * i) W (xL0 i) (xI0 i) (xR0 i)) 12 14 (.ref (jsz μ)) = some (.ref (jsz μ + 333)) := by
    rw [gR12, if_pos k0, r5]
    rfl
  rw [b11_139, if_pos (by show N i < N 4; rw [N_lt (by omega) (by decide)]; exact hi), g5, Option.bind_some, cu_124 (d := d + 1), Option.bind_some]
  show jR (d + 3) 11 156 [.ref (jsz μ), .int (N i)] [.ref (jsz μ + (334 + 2 * i)), .int (N i), .ref (jsz μ + 333)] _ = _
  have e28 : kL (334 + 2 * i) (xL0 i) LS1 333 = (32, 4) := by rw [kl_lt (by omega), xL0_333]
  rw [b11_156 (hs0 := ir_ref), ka_arr (by omega) (by rw [e28]; decide) (by rw [e28]; exact hi) (by rw [e28]; decide) (by omega) (by rw [xL0_g, e28]; rfl), Option.bind_some, show (1 : Int32) = N 1 from rfl, N_add]
  rfl
theorem cx_loop : ∀ i, i ≤ 4 → jR (d + 3) 11 139 [.ref (jsz μ), .int (N 0)] [] (bld μ 334 7342 (xL0 0) (xI0 0) (xR0 0)) = jR (d + 3) 11 139 [.ref (jsz μ), .int (N i)] [] (bld μ (334 + 2 * i) (7342 + 43 * i) (xL0 i) (xI0 i) (xR0 i))
  | 0, _ => rfl
  | i + 1, h => by
    rw [cx_loop i (by omega), cx_it (by omega)]
    rfl
def LZ1 : Nat → Nat × Nat := xL0 4
def IZ1 : Nat → Nat → Int32 := xI0 4
def RZ1 : Nat → Nat → Option Nat := xR0 4
theorem ct_11 : jC (d + 3) 11 [.ref (jsz μ)] (jnew μ 12 0 15) = some (none, bld μ 342 7514 LZ1 IZ1 RZ1) := by
  rw [jC_run (by decide)]
  show jR (d + 3) 11 0 [.ref (jsz μ), .retAddr 0] [] (jnew μ 12 0 15) = _
  rw [cx_head, cx_loop 4 (by decide), b11_139, if_neg (by decide)]
  rfl
end BLDM
