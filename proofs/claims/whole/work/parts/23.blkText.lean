/-! THE BLOCKS of Tape and TextReader, laid by program -/
-- Tape.init
theorem b129_0 (d : Nat) (μ : jM) (a : Nat) : jR (d + 1) 129 0 [.ref a] [] μ = (jpR ((jnew μ 20 40 40)) 10 0 (.ref a) ((.ref (jsz μ)))).bind fun m1 => (jpR ((jnew m1 20 41 41)) 10 3 (.ref a) ((.ref (jsz m1)))).bind fun m2 => (jpR ((jnew m2 20 41 41)) 10 4 (.ref a) ((.ref (jsz m2)))).bind fun m3 => (jpR ((jnew m3 20 41 41)) 10 5 (.ref a) ((.ref (jsz m3)))).bind fun m4 => some (none, m4) :=
  (l_aload_n (show gPG 129 0 = some (.aload_n 0) by decide +kernel) rfl jr_ref).trans <|
  (l_obj (u := 3) (show gPG 129 1 = some (jinvI 3 3) by decide +kernel) (by decide) (q2 := 99) (q3 := 0) (z := 18) (by decide +kernel) (by decide +kernel) cs0 (by decide +kernel)).trans <|
  (l_aload_n (show gPG 129 4 = some (.aload_n 0) by decide +kernel) rfl jr_ref).trans <|
  (l_bipush (show gPG 129 5 = some (.bipush 40) by decide +kernel) (c := 40) (by decide +kernel)).trans <|
  (l_newaK (show gPG 129 7 = some (.newarray .int) by decide +kernel) (kd := 20) (N := 40) rfl (by decide +kernel)).trans <|
  (l_pR (show gPG 129 9 = some (.putfield 9) by decide +kernel) (kd := 10) (sl := 0) (tc := 1) (fin := 1) (z := 0) (by decide +kernel) (by decide +kernel) (by decide +kernel) jr_ref).trans <| bd_cg fun m1 hm1 =>
  (l_aload_n (show gPG 129 12 = some (.aload_n 0) by decide +kernel) rfl jr_ref).trans <|
  (l_bipush (show gPG 129 13 = some (.bipush 41) by decide +kernel) (c := 41) (by decide +kernel)).trans <|
  (l_newaK (show gPG 129 15 = some (.newarray .int) by decide +kernel) (kd := 20) (N := 41) rfl (by decide +kernel)).trans <|
  (l_pR (show gPG 129 17 = some (.putfield 15) by decide +kernel) (kd := 10) (sl := 3) (tc := 1) (fin := 1) (z := 0) (by decide +kernel) (by decide +kernel) (by decide +kernel) jr_ref).trans <| bd_cg fun m2 hm2 =>
  (l_aload_n (show gPG 129 20 = some (.aload_n 0) by decide +kernel) rfl jr_ref).trans <|
  (l_bipush (show gPG 129 21 = some (.bipush 41) by decide +kernel) (c := 41) (by decide +kernel)).trans <|
  (l_newaK (show gPG 129 23 = some (.newarray .int) by decide +kernel) (kd := 20) (N := 41) rfl (by decide +kernel)).trans <|
  (l_pR (show gPG 129 25 = some (.putfield 18) by decide +kernel) (kd := 10) (sl := 4) (tc := 1) (fin := 1) (z := 0) (by decide +kernel) (by decide +kernel) (by decide +kernel) jr_ref).trans <| bd_cg fun m3 hm3 =>
  (l_aload_n (show gPG 129 28 = some (.aload_n 0) by decide +kernel) rfl jr_ref).trans <|
  (l_bipush (show gPG 129 29 = some (.bipush 41) by decide +kernel) (c := 41) (by decide +kernel)).trans <|
  (l_newaK (show gPG 129 31 = some (.newarray .int) by decide +kernel) (kd := 20) (N := 41) rfl (by decide +kernel)).trans <|
  (l_pR (show gPG 129 33 = some (.putfield 21) by decide +kernel) (kd := 10) (sl := 5) (tc := 1) (fin := 1) (z := 0) (by decide +kernel) (by decide +kernel) (by decide +kernel) jr_ref).trans <| bd_cg fun m4 hm4 =>
  l_ret (show gPG 129 36 = some (.return_) by decide +kernel) (by decide +kernel)
-- Tape.hasRoom
theorem b130_0 (d : Nat) (μ : jM) (a : Nat) (i1 : Int32) : jR d 130 0 [.ref a, .int i1] [] μ = (jgI μ 10 1 (.ref a)).bind fun x1 => (if (40 - x1) < i1 then jR d 130 16 [.ref a, .int i1] [.int 0] μ else jR d 130 16 [.ref a, .int i1] [.int 1] μ) :=
  (l_iload_n (show gPG 130 0 = some (.iload_n 1) by decide +kernel) rfl).trans <|
  (l_bipush (show gPG 130 1 = some (.bipush 40) by decide +kernel) (c := 40) (by decide +kernel)).trans <|
  (l_aload_n (show gPG 130 3 = some (.aload_n 0) by decide +kernel) rfl jr_ref).trans <|
  (l_gI (show gPG 130 4 = some (.getfield 24) by decide +kernel) (kd := 10) (sl := 1) (tc := 0) (fin := 0) (z := 0) (by decide +kernel) (by decide +kernel) (by decide +kernel)).trans <| bd_cg fun x1 hx1 =>
  (l_isub (show gPG 130 7 = some (.isub) by decide +kernel) ).trans <|
  (l_cmp (show gPG 130 8 = some (.if_icmp .gt 7) by decide +kernel) (t := 15) (by decide +kernel)).trans <| jm_gt.trans <| ite_cg (
  l_iconst (show gPG 130 15 = some (.iconst 0) by decide +kernel) (c := 0) (by decide +kernel)) (
  (l_iconst (show gPG 130 11 = some (.iconst 1) by decide +kernel) (c := 1) (by decide +kernel)).trans <|
  l_goto (show gPG 130 12 = some (.goto 4) by decide +kernel) (t := 16) (by decide +kernel))
theorem b130_16 (d : Nat) (μ : jM) (u0 : Value) (u1 : Value) (s0 : Int32) : jR d 130 16 [u0, u1] [.int s0] μ = (if jrf 4 s0 = true then some (some (.int s0), μ) else none) :=
  l_iret (show gPG 130 16 = some (.ireturn) by decide +kernel) (rc := 4) (by decide +kernel)
-- Tape.add
theorem b131_0 (d : Nat) (μ : jM) (a : Nat) (i1 : Int32) : jR d 131 0 [.ref a, .int i1] [] μ = (jgI μ 10 1 (.ref a)).bind fun x1 => (if x1 < 40 then (jgR μ 10 0 (.ref a)).bind fun w2 => (jgI μ 10 1 (.ref a)).bind fun x3 => (jsI μ w2 x3 i1).bind fun m4 => (jgI m4 10 1 (.ref a)).bind fun x5 => (jpI m4 10 1 0 (.ref a) (x5 + 1)).bind fun m6 => jR d 131 29 [.ref a, .int i1] [] m6 else jR d 131 29 [.ref a, .int i1] [] μ) :=
  (l_aload_n (show gPG 131 0 = some (.aload_n 0) by decide +kernel) rfl jr_ref).trans <|
  (l_gI (show gPG 131 1 = some (.getfield 24) by decide +kernel) (kd := 10) (sl := 1) (tc := 0) (fin := 0) (z := 0) (by decide +kernel) (by decide +kernel) (by decide +kernel)).trans <| bd_cg fun x1 hx1 =>
  (l_bipush (show gPG 131 4 = some (.bipush 40) by decide +kernel) (c := 40) (by decide +kernel)).trans <|
  (l_cmp (show gPG 131 6 = some (.if_icmp .ge 23) by decide +kernel) (t := 29) (by decide +kernel)).trans <| jm_ge.trans <| ite_cg (
  (l_aload_n (show gPG 131 9 = some (.aload_n 0) by decide +kernel) rfl jr_ref).trans <|
  (l_gR (show gPG 131 10 = some (.getfield 9) by decide +kernel) (kd := 10) (sl := 0) (tc := 1) (fin := 1) (z := 0) (by decide +kernel) (by decide +kernel) (by decide +kernel)).trans <| bd_cg fun w2 hw2 =>
  (l_aload_n (show gPG 131 13 = some (.aload_n 0) by decide +kernel) rfl jr_ref).trans <|
  (l_gI (show gPG 131 14 = some (.getfield 24) by decide +kernel) (kd := 10) (sl := 1) (tc := 0) (fin := 0) (z := 0) (by decide +kernel) (by decide +kernel) (by decide +kernel)).trans <| bd_cg fun x3 hx3 =>
  (l_iload_n (show gPG 131 17 = some (.iload_n 1) by decide +kernel) rfl).trans <|
  (l_iast (show gPG 131 18 = some (.iastore) by decide +kernel) ).trans <| bd_cg fun m4 hm4 =>
  (l_aload_n (show gPG 131 19 = some (.aload_n 0) by decide +kernel) rfl jr_ref).trans <|
  (l_dup (show gPG 131 20 = some (.dup) by decide +kernel) (jr_cat1 jr_ref)).trans <|
  (l_gI (show gPG 131 21 = some (.getfield 24) by decide +kernel) (kd := 10) (sl := 1) (tc := 0) (fin := 0) (z := 0) (by decide +kernel) (by decide +kernel) (by decide +kernel)).trans <| bd_cg fun x5 hx5 =>
  (l_iconst (show gPG 131 24 = some (.iconst 1) by decide +kernel) (c := 1) (by decide +kernel)).trans <|
  (l_iadd (show gPG 131 25 = some (.iadd) by decide +kernel) ).trans <|
  (l_pI (show gPG 131 26 = some (.putfield 24) by decide +kernel) (kd := 10) (sl := 1) (tc := 0) (fin := 0) (z := 0) (by decide +kernel) (by decide +kernel) (by decide +kernel)).trans <| bd_cg fun m6 hm6 =>
  rfl) (
  rfl)
theorem b131_29 (d : Nat) (μ : jM) (u0 : Value) (u1 : Value) : jR d 131 29 [u0, u1] [] μ = some (none, μ) :=
  l_ret (show gPG 131 29 = some (.return_) by decide +kernel) (by decide +kernel)
-- Tape.findTokens
theorem b132_0 (d : Nat) (μ : jM) (a : Nat) : jR d 132 0 [.ref a, .retAddr 0, .retAddr 0] [] μ = (jpI μ 10 6 0 (.ref a) 0).bind fun m1 => (jpI m1 10 2 0 (.ref a) 0).bind fun m2 => jR d 132 14 [.ref a, .int 1, .int 0] [] m2 :=
  (l_aload_n (show gPG 132 0 = some (.aload_n 0) by decide +kernel) rfl jr_ref).trans <|
  (l_iconst (show gPG 132 1 = some (.iconst 0) by decide +kernel) (c := 0) (by decide +kernel)).trans <|
  (l_pI (show gPG 132 2 = some (.putfield 28) by decide +kernel) (kd := 10) (sl := 6) (tc := 0) (fin := 0) (z := 0) (by decide +kernel) (by decide +kernel) (by decide +kernel)).trans <| bd_cg fun m1 hm1 =>
  (l_aload_n (show gPG 132 5 = some (.aload_n 0) by decide +kernel) rfl jr_ref).trans <|
  (l_iconst (show gPG 132 6 = some (.iconst 0) by decide +kernel) (c := 0) (by decide +kernel)).trans <|
  (l_pI (show gPG 132 7 = some (.putfield 31) by decide +kernel) (kd := 10) (sl := 2) (tc := 0) (fin := 0) (z := 0) (by decide +kernel) (by decide +kernel) (by decide +kernel)).trans <| bd_cg fun m2 hm2 =>
  (l_iconst (show gPG 132 10 = some (.iconst 1) by decide +kernel) (c := 1) (by decide +kernel)).trans <|
  (l_istore_n (show gPG 132 11 = some (.istore_n 1) by decide +kernel) (ls := [.ref a, .retAddr 0, .retAddr 0]) (show (1 : Nat) < 3 by decide) (show _ = ([.ref a, .int 1, .retAddr 0] : List Value) from rfl)).trans <|
  (l_iconst (show gPG 132 12 = some (.iconst 0) by decide +kernel) (c := 0) (by decide +kernel)).trans <|
  l_istore_n (show gPG 132 13 = some (.istore_n 2) by decide +kernel) (ls := [.ref a, .int 1, .retAddr 0]) (show (2 : Nat) < 3 by decide) (show _ = ([.ref a, .int 1, .int 0] : List Value) from rfl)
theorem b132_14 (d : Nat) (μ : jM) (a : Nat) (i1 : Int32) (i2 : Int32) : jR (d + 1) 132 14 [.ref a, .int i1, .int i2] [] μ = (jgR μ 10 3 (.ref a)).bind fun w1 => (jal μ w1).bind fun x2 => (if i2 < x2 then (if i1 = 0 then jR (d + 1) 132 53 [.ref a, .int i1, .int i2] [] μ else (if jrecv μ 10 (.ref a) = true then (jC d 133 [.ref a, .int i2] μ).bind fun p3 => jR (d + 1) 132 32 [.ref a, .int i1, .int i2] (p3.1.toList ++ []) p3.2 else none)) else jR (d + 1) 132 53 [.ref a, .int i1, .int i2] [] μ) :=
  (l_iload_n (show gPG 132 14 = some (.iload_n 2) by decide +kernel) rfl).trans <|
  (l_aload_n (show gPG 132 15 = some (.aload_n 0) by decide +kernel) rfl jr_ref).trans <|
  (l_gR (show gPG 132 16 = some (.getfield 15) by decide +kernel) (kd := 10) (sl := 3) (tc := 1) (fin := 1) (z := 0) (by decide +kernel) (by decide +kernel) (by decide +kernel)).trans <| bd_cg fun w1 hw1 =>
  (l_alen (show gPG 132 19 = some (.arraylength) by decide +kernel) ).trans <| bd_cg fun x2 hx2 =>
  (l_cmp (show gPG 132 20 = some (.if_icmp .ge 33) by decide +kernel) (t := 53) (by decide +kernel)).trans <| jm_ge.trans <| ite_cg (
  (l_iload_n (show gPG 132 23 = some (.iload_n 1) by decide +kernel) rfl).trans <|
  (l_cmp0 (show gPG 132 24 = some (.ifCond .eq 29) by decide +kernel) (t := 53) (by decide +kernel)).trans <| jm_eq.trans <| ite_cg (
  rfl) (
  (l_aload_n (show gPG 132 27 = some (.aload_n 0) by decide +kernel) rfl jr_ref).trans <|
  (l_iload_n (show gPG 132 28 = some (.iload_n 2) by decide +kernel) rfl).trans <|
  l_callV (u := 1) (v := .ref a) (as := [.int i2]) (show gPG 132 29 = some (jinvI 1 34) by decide +kernel) (by decide) (cc := 133) (na := 2) (kd := 10) (q4 := 0) (z := 10) (rest := []) (by decide +kernel) (by decide +kernel)  rfl (show (2 : Nat) ≤ 2 by decide) rfl cs0 (by decide +kernel) (cai (cav jr_ref ca0)))) (
  rfl)
theorem b132_32 (d : Nat) (μ : jM) (a : Nat) (u1 : Value) (i2 : Int32) : jR d 132 32 [.ref a, u1, .int i2] [] μ = (jgR μ 10 3 (.ref a)).bind fun w1 => (jaI μ w1 i2).bind fun x2 => (if x2 = 0 then jR d 132 46 [.ref a, u1, .int i2] [.int 0] μ else jR d 132 46 [.ref a, u1, .int i2] [.int 1] μ) :=
  (l_aload_n (show gPG 132 32 = some (.aload_n 0) by decide +kernel) rfl jr_ref).trans <|
  (l_gR (show gPG 132 33 = some (.getfield 15) by decide +kernel) (kd := 10) (sl := 3) (tc := 1) (fin := 1) (z := 0) (by decide +kernel) (by decide +kernel) (by decide +kernel)).trans <| bd_cg fun w1 hw1 =>
  (l_iload_n (show gPG 132 36 = some (.iload_n 2) by decide +kernel) rfl).trans <|
  (l_iald (show gPG 132 37 = some (.iaload) by decide +kernel) ).trans <| bd_cg fun x2 hx2 =>
  (l_cmp0 (show gPG 132 38 = some (.ifCond .eq 7) by decide +kernel) (t := 45) (by decide +kernel)).trans <| jm_eq.trans <| ite_cg (
  l_iconst (show gPG 132 45 = some (.iconst 0) by decide +kernel) (c := 0) (by decide +kernel)) (
  (l_iconst (show gPG 132 41 = some (.iconst 1) by decide +kernel) (c := 1) (by decide +kernel)).trans <|
  l_goto (show gPG 132 42 = some (.goto 4) by decide +kernel) (t := 46) (by decide +kernel))
theorem b132_46 (d : Nat) (μ : jM) (a : Nat) (u1 : Value) (i2 : Int32) (s0 : Int32) : jR d 132 46 [.ref a, u1, .int i2] [.int s0] μ = jR d 132 14 [.ref a, .int s0, .int (i2 + 1)] [] μ :=
  (l_istore_n (show gPG 132 46 = some (.istore_n 1) by decide +kernel) (ls := [.ref a, u1, .int i2]) (show (1 : Nat) < 3 by decide) (show _ = ([.ref a, .int s0, .int i2] : List Value) from rfl)).trans <|
  (l_iinc (show gPG 132 47 = some (.iinc 2 1) by decide +kernel) (c := 1) (by decide +kernel) rfl (show _ = ([.ref a, .int s0, .int (i2 + 1)] : List Value) from rfl)).trans <|
  l_goto (show gPG 132 50 = some (.goto (-36)) by decide +kernel) (t := 14) (by decide +kernel)
theorem b132_53 (d : Nat) (μ : jM) (u0 : Value) (u1 : Value) (u2 : Value) : jR d 132 53 [u0, u1, u2] [] μ = some (none, μ) :=
  l_ret (show gPG 132 53 = some (.return_) by decide +kernel) (by decide +kernel)
-- Tape.scanToken
theorem b133_0 (d : Nat) (μ : jM) (a : Nat) (i1 : Int32) : jR (d + 1) 133 0 [.ref a, .int i1] [] μ = (jgI μ 10 2 (.ref a)).bind fun x1 => (jgI μ 10 1 (.ref a)).bind fun x2 => (if x1 < x2 then (jgR μ 10 0 (.ref a)).bind fun w3 => (jgI μ 10 2 (.ref a)).bind fun x4 => (jaI μ w3 x4).bind fun x5 => (jC d 134 [.int x5] μ).bind fun p6 => jR (d + 1) 133 23 [.ref a, .int i1] (p6.1.toList ++ []) p6.2 else jR (d + 1) 133 39 [.ref a, .int i1] [] μ) :=
  (l_aload_n (show gPG 133 0 = some (.aload_n 0) by decide +kernel) rfl jr_ref).trans <|
  (l_gI (show gPG 133 1 = some (.getfield 31) by decide +kernel) (kd := 10) (sl := 2) (tc := 0) (fin := 0) (z := 0) (by decide +kernel) (by decide +kernel) (by decide +kernel)).trans <| bd_cg fun x1 hx1 =>
  (l_aload_n (show gPG 133 4 = some (.aload_n 0) by decide +kernel) rfl jr_ref).trans <|
  (l_gI (show gPG 133 5 = some (.getfield 24) by decide +kernel) (kd := 10) (sl := 1) (tc := 0) (fin := 0) (z := 0) (by decide +kernel) (by decide +kernel) (by decide +kernel)).trans <| bd_cg fun x2 hx2 =>
  (l_cmp (show gPG 133 8 = some (.if_icmp .ge 31) by decide +kernel) (t := 39) (by decide +kernel)).trans <| jm_ge.trans <| ite_cg (
  (l_aload_n (show gPG 133 11 = some (.aload_n 0) by decide +kernel) rfl jr_ref).trans <|
  (l_gR (show gPG 133 12 = some (.getfield 9) by decide +kernel) (kd := 10) (sl := 0) (tc := 1) (fin := 1) (z := 0) (by decide +kernel) (by decide +kernel) (by decide +kernel)).trans <| bd_cg fun w3 hw3 =>
  (l_aload_n (show gPG 133 15 = some (.aload_n 0) by decide +kernel) rfl jr_ref).trans <|
  (l_gI (show gPG 133 16 = some (.getfield 31) by decide +kernel) (kd := 10) (sl := 2) (tc := 0) (fin := 0) (z := 0) (by decide +kernel) (by decide +kernel) (by decide +kernel)).trans <| bd_cg fun x4 hx4 =>
  (l_iald (show gPG 133 19 = some (.iaload) by decide +kernel) ).trans <| bd_cg fun x5 hx5 =>
  l_callS (u := 2) (as := [.int x5]) (show gPG 133 20 = some (jinvI 2 38) by decide +kernel) (by decide) (cc := 134) (na := 1) (q4 := 0) (z := 12) (rest := []) (by decide +kernel) (by decide +kernel)  rfl (show (1 : Nat) ≤ 1 by decide) rfl cs0 (by decide +kernel) (cai ca0) (fun e => absurd e (by decide))) (
  rfl)
theorem b133_23 (d : Nat) (μ : jM) (a : Nat) (i1 : Int32) (s0 : Int32) : jR d 133 23 [.ref a, .int i1] [.int s0] μ = (if s0 = 0 then jR d 133 39 [.ref a, .int i1] [] μ else (jgI μ 10 2 (.ref a)).bind fun x1 => (jpI μ 10 2 0 (.ref a) (x1 + 1)).bind fun m2 => jR d 133 0 [.ref a, .int i1] [] m2) :=
  (l_cmp0 (show gPG 133 23 = some (.ifCond .eq 16) by decide +kernel) (t := 39) (by decide +kernel)).trans <| jm_eq.trans <| ite_cg (
  rfl) (
  (l_aload_n (show gPG 133 26 = some (.aload_n 0) by decide +kernel) rfl jr_ref).trans <|
  (l_dup (show gPG 133 27 = some (.dup) by decide +kernel) (jr_cat1 jr_ref)).trans <|
  (l_gI (show gPG 133 28 = some (.getfield 31) by decide +kernel) (kd := 10) (sl := 2) (tc := 0) (fin := 0) (z := 0) (by decide +kernel) (by decide +kernel) (by decide +kernel)).trans <| bd_cg fun x1 hx1 =>
  (l_iconst (show gPG 133 31 = some (.iconst 1) by decide +kernel) (c := 1) (by decide +kernel)).trans <|
  (l_iadd (show gPG 133 32 = some (.iadd) by decide +kernel) ).trans <|
  (l_pI (show gPG 133 33 = some (.putfield 31) by decide +kernel) (kd := 10) (sl := 2) (tc := 0) (fin := 0) (z := 0) (by decide +kernel) (by decide +kernel) (by decide +kernel)).trans <| bd_cg fun m2 hm2 =>
  l_goto (show gPG 133 36 = some (.goto (-36)) by decide +kernel) (t := 0) (by decide +kernel))
theorem b133_39 (d : Nat) (μ : jM) (a : Nat) (i1 : Int32) : jR (d + 1) 133 39 [.ref a, .int i1] [] μ = (jgR μ 10 4 (.ref a)).bind fun w1 => (jgI μ 10 2 (.ref a)).bind fun x2 => (jsI μ w1 i1 x2).bind fun m3 => (jgR m3 10 5 (.ref a)).bind fun w4 => (jsI m3 w4 i1 0).bind fun m5 => (jgI m5 10 2 (.ref a)).bind fun x6 => (jgI m5 10 1 (.ref a)).bind fun x7 => (if x6 < x7 then (jgR m5 10 0 (.ref a)).bind fun w8 => (jgI m5 10 2 (.ref a)).bind fun x9 => (jaI m5 w8 x9).bind fun x10 => (jC d 135 [.int x10] m5).bind fun p11 => jR (d + 1) 133 89 [.ref a, .int i1] (p11.1.toList ++ []) p11.2 else (jgR m5 10 3 (.ref a)).bind fun w12 => (jsI m5 w12 i1 0).bind fun m13 => jR (d + 1) 133 151 [.ref a, .int i1] [] m13) :=
  (l_aload_n (show gPG 133 39 = some (.aload_n 0) by decide +kernel) rfl jr_ref).trans <|
  (l_gR (show gPG 133 40 = some (.getfield 18) by decide +kernel) (kd := 10) (sl := 4) (tc := 1) (fin := 1) (z := 0) (by decide +kernel) (by decide +kernel) (by decide +kernel)).trans <| bd_cg fun w1 hw1 =>
  (l_iload_n (show gPG 133 43 = some (.iload_n 1) by decide +kernel) rfl).trans <|
  (l_aload_n (show gPG 133 44 = some (.aload_n 0) by decide +kernel) rfl jr_ref).trans <|
  (l_gI (show gPG 133 45 = some (.getfield 31) by decide +kernel) (kd := 10) (sl := 2) (tc := 0) (fin := 0) (z := 0) (by decide +kernel) (by decide +kernel) (by decide +kernel)).trans <| bd_cg fun x2 hx2 =>
  (l_iast (show gPG 133 48 = some (.iastore) by decide +kernel) ).trans <| bd_cg fun m3 hm3 =>
  (l_aload_n (show gPG 133 49 = some (.aload_n 0) by decide +kernel) rfl jr_ref).trans <|
  (l_gR (show gPG 133 50 = some (.getfield 21) by decide +kernel) (kd := 10) (sl := 5) (tc := 1) (fin := 1) (z := 0) (by decide +kernel) (by decide +kernel) (by decide +kernel)).trans <| bd_cg fun w4 hw4 =>
  (l_iload_n (show gPG 133 53 = some (.iload_n 1) by decide +kernel) rfl).trans <|
  (l_iconst (show gPG 133 54 = some (.iconst 0) by decide +kernel) (c := 0) (by decide +kernel)).trans <|
  (l_iast (show gPG 133 55 = some (.iastore) by decide +kernel) ).trans <| bd_cg fun m5 hm5 =>
  (l_aload_n (show gPG 133 56 = some (.aload_n 0) by decide +kernel) rfl jr_ref).trans <|
  (l_gI (show gPG 133 57 = some (.getfield 31) by decide +kernel) (kd := 10) (sl := 2) (tc := 0) (fin := 0) (z := 0) (by decide +kernel) (by decide +kernel) (by decide +kernel)).trans <| bd_cg fun x6 hx6 =>
  (l_aload_n (show gPG 133 60 = some (.aload_n 0) by decide +kernel) rfl jr_ref).trans <|
  (l_gI (show gPG 133 61 = some (.getfield 24) by decide +kernel) (kd := 10) (sl := 1) (tc := 0) (fin := 0) (z := 0) (by decide +kernel) (by decide +kernel) (by decide +kernel)).trans <| bd_cg fun x7 hx7 =>
  (l_cmp (show gPG 133 64 = some (.if_icmp .lt 13) by decide +kernel) (t := 77) (by decide +kernel)).trans <| jm_lt.trans <| ite_cg (
  (l_aload_n (show gPG 133 77 = some (.aload_n 0) by decide +kernel) rfl jr_ref).trans <|
  (l_gR (show gPG 133 78 = some (.getfield 9) by decide +kernel) (kd := 10) (sl := 0) (tc := 1) (fin := 1) (z := 0) (by decide +kernel) (by decide +kernel) (by decide +kernel)).trans <| bd_cg fun w8 hw8 =>
  (l_aload_n (show gPG 133 81 = some (.aload_n 0) by decide +kernel) rfl jr_ref).trans <|
  (l_gI (show gPG 133 82 = some (.getfield 31) by decide +kernel) (kd := 10) (sl := 2) (tc := 0) (fin := 0) (z := 0) (by decide +kernel) (by decide +kernel) (by decide +kernel)).trans <| bd_cg fun x9 hx9 =>
  (l_iald (show gPG 133 85 = some (.iaload) by decide +kernel) ).trans <| bd_cg fun x10 hx10 =>
  l_callS (u := 2) (as := [.int x10]) (show gPG 133 86 = some (jinvI 2 42) by decide +kernel) (by decide) (cc := 135) (na := 1) (q4 := 0) (z := 12) (rest := []) (by decide +kernel) (by decide +kernel)  rfl (show (1 : Nat) ≤ 1 by decide) rfl cs0 (by decide +kernel) (cai ca0) (fun e => absurd e (by decide))) (
  (l_aload_n (show gPG 133 67 = some (.aload_n 0) by decide +kernel) rfl jr_ref).trans <|
  (l_gR (show gPG 133 68 = some (.getfield 15) by decide +kernel) (kd := 10) (sl := 3) (tc := 1) (fin := 1) (z := 0) (by decide +kernel) (by decide +kernel) (by decide +kernel)).trans <| bd_cg fun w12 hw12 =>
  (l_iload_n (show gPG 133 71 = some (.iload_n 1) by decide +kernel) rfl).trans <|
  (l_iconst (show gPG 133 72 = some (.iconst 0) by decide +kernel) (c := 0) (by decide +kernel)).trans <|
  (l_iast (show gPG 133 73 = some (.iastore) by decide +kernel) ).trans <| bd_cg fun m13 hm13 =>
  l_goto (show gPG 133 74 = some (.goto 77) by decide +kernel) (t := 151) (by decide +kernel))
theorem b133_89 (d : Nat) (μ : jM) (a : Nat) (i1 : Int32) (s0 : Int32) : jR (d + 1) 133 89 [.ref a, .int i1] [.int s0] μ = (if s0 = 0 then (jgR μ 10 0 (.ref a)).bind fun w1 => (jgI μ 10 2 (.ref a)).bind fun x2 => (jaI μ w1 x2).bind fun x3 => (jC d 137 [.int x3] μ).bind fun p4 => jR (d + 1) 133 112 [.ref a, .int i1] (p4.1.toList ++ []) p4.2 else (if jrecv μ 10 (.ref a) = true then (jC d 136 [.ref a, .int i1] μ).bind fun p5 => jR (d + 1) 133 97 [.ref a, .int i1] (p5.1.toList ++ []) p5.2 else none)) :=
  (l_cmp0 (show gPG 133 89 = some (.ifCond .eq 11) by decide +kernel) (t := 100) (by decide +kernel)).trans <| jm_eq.trans <| ite_cg (
  (l_aload_n (show gPG 133 100 = some (.aload_n 0) by decide +kernel) rfl jr_ref).trans <|
  (l_gR (show gPG 133 101 = some (.getfield 9) by decide +kernel) (kd := 10) (sl := 0) (tc := 1) (fin := 1) (z := 0) (by decide +kernel) (by decide +kernel) (by decide +kernel)).trans <| bd_cg fun w1 hw1 =>
  (l_aload_n (show gPG 133 104 = some (.aload_n 0) by decide +kernel) rfl jr_ref).trans <|
  (l_gI (show gPG 133 105 = some (.getfield 31) by decide +kernel) (kd := 10) (sl := 2) (tc := 0) (fin := 0) (z := 0) (by decide +kernel) (by decide +kernel) (by decide +kernel)).trans <| bd_cg fun x2 hx2 =>
  (l_iald (show gPG 133 108 = some (.iaload) by decide +kernel) ).trans <| bd_cg fun x3 hx3 =>
  l_callS (u := 2) (as := [.int x3]) (show gPG 133 109 = some (jinvI 2 48) by decide +kernel) (by decide) (cc := 137) (na := 1) (q4 := 0) (z := 12) (rest := []) (by decide +kernel) (by decide +kernel)  rfl (show (1 : Nat) ≤ 1 by decide) rfl cs0 (by decide +kernel) (cai ca0) (fun e => absurd e (by decide))) (
  (l_aload_n (show gPG 133 92 = some (.aload_n 0) by decide +kernel) rfl jr_ref).trans <|
  (l_iload_n (show gPG 133 93 = some (.iload_n 1) by decide +kernel) rfl).trans <|
  l_callV (u := 1) (v := .ref a) (as := [.int i1]) (show gPG 133 94 = some (jinvI 1 45) by decide +kernel) (by decide) (cc := 136) (na := 2) (kd := 10) (q4 := 0) (z := 10) (rest := []) (by decide +kernel) (by decide +kernel)  rfl (show (2 : Nat) ≤ 2 by decide) rfl cs0 (by decide +kernel) (cai (cav jr_ref ca0)))
theorem b133_97 (d : Nat) (μ : jM) (u0 : Value) (u1 : Value) : jR d 133 97 [u0, u1] [] μ = jR d 133 151 [u0, u1] [] μ :=
  l_goto (show gPG 133 97 = some (.goto 54) by decide +kernel) (t := 151) (by decide +kernel)
theorem b133_112 (d : Nat) (μ : jM) (a : Nat) (i1 : Int32) (s0 : Int32) : jR (d + 1) 133 112 [.ref a, .int i1] [.int s0] μ = (if s0 = 0 then (jgR μ 10 3 (.ref a)).bind fun w1 => (jgR μ 10 0 (.ref a)).bind fun w2 => (jgI μ 10 2 (.ref a)).bind fun x3 => (jaI μ w2 x3).bind fun x4 => (jC d 140 [.int x4] μ).bind fun p5 => jR (d + 1) 133 140 [.ref a, .int i1] (p5.1.toList ++ [.int i1, w1]) p5.2 else (if jrecv μ 10 (.ref a) = true then (jC d 138 [.ref a, .int i1] μ).bind fun p6 => jR (d + 1) 133 120 [.ref a, .int i1] (p6.1.toList ++ []) p6.2 else none)) :=
  (l_cmp0 (show gPG 133 112 = some (.ifCond .eq 11) by decide +kernel) (t := 123) (by decide +kernel)).trans <| jm_eq.trans <| ite_cg (
  (l_aload_n (show gPG 133 123 = some (.aload_n 0) by decide +kernel) rfl jr_ref).trans <|
  (l_gR (show gPG 133 124 = some (.getfield 15) by decide +kernel) (kd := 10) (sl := 3) (tc := 1) (fin := 1) (z := 0) (by decide +kernel) (by decide +kernel) (by decide +kernel)).trans <| bd_cg fun w1 hw1 =>
  (l_iload_n (show gPG 133 127 = some (.iload_n 1) by decide +kernel) rfl).trans <|
  (l_aload_n (show gPG 133 128 = some (.aload_n 0) by decide +kernel) rfl jr_ref).trans <|
  (l_gR (show gPG 133 129 = some (.getfield 9) by decide +kernel) (kd := 10) (sl := 0) (tc := 1) (fin := 1) (z := 0) (by decide +kernel) (by decide +kernel) (by decide +kernel)).trans <| bd_cg fun w2 hw2 =>
  (l_aload_n (show gPG 133 132 = some (.aload_n 0) by decide +kernel) rfl jr_ref).trans <|
  (l_gI (show gPG 133 133 = some (.getfield 31) by decide +kernel) (kd := 10) (sl := 2) (tc := 0) (fin := 0) (z := 0) (by decide +kernel) (by decide +kernel) (by decide +kernel)).trans <| bd_cg fun x3 hx3 =>
  (l_iald (show gPG 133 136 = some (.iaload) by decide +kernel) ).trans <| bd_cg fun x4 hx4 =>
  l_callS (u := 2) (as := [.int x4]) (show gPG 133 137 = some (jinvI 2 54) by decide +kernel) (by decide) (cc := 140) (na := 1) (q4 := 0) (z := 12) (rest := [.int i1, w1]) (by decide +kernel) (by decide +kernel)  rfl (show (1 : Nat) ≤ 3 by decide) rfl (csi (csv (jr_gR hw1) cs0)) (by decide +kernel) (cai ca0) (fun e => absurd e (by decide))) (
  (l_aload_n (show gPG 133 115 = some (.aload_n 0) by decide +kernel) rfl jr_ref).trans <|
  (l_iload_n (show gPG 133 116 = some (.iload_n 1) by decide +kernel) rfl).trans <|
  l_callV (u := 1) (v := .ref a) (as := [.int i1]) (show gPG 133 117 = some (jinvI 1 51) by decide +kernel) (by decide) (cc := 138) (na := 2) (kd := 10) (q4 := 0) (z := 10) (rest := []) (by decide +kernel) (by decide +kernel)  rfl (show (2 : Nat) ≤ 2 by decide) rfl cs0 (by decide +kernel) (cai (cav jr_ref ca0)))
theorem b133_120 (d : Nat) (μ : jM) (u0 : Value) (u1 : Value) : jR d 133 120 [u0, u1] [] μ = jR d 133 151 [u0, u1] [] μ :=
  l_goto (show gPG 133 120 = some (.goto 31) by decide +kernel) (t := 151) (by decide +kernel)
theorem b133_140 (d : Nat) (μ : jM) (a : Nat) (u1 : Value) (s0 : Value) (s1 : Int32) (s2 : Int32) (hs0 : jisref s0 = true) : jR d 133 140 [.ref a, u1] [.int s2, .int s1, s0] μ = (jsI μ s0 s1 s2).bind fun m1 => (jgI m1 10 2 (.ref a)).bind fun x2 => (jpI m1 10 2 0 (.ref a) (x2 + 1)).bind fun m3 => jR d 133 151 [.ref a, u1] [] m3 :=
  (l_iast (show gPG 133 140 = some (.iastore) by decide +kernel) ).trans <| bd_cg fun m1 hm1 =>
  (l_aload_n (show gPG 133 141 = some (.aload_n 0) by decide +kernel) rfl jr_ref).trans <|
  (l_dup (show gPG 133 142 = some (.dup) by decide +kernel) (jr_cat1 jr_ref)).trans <|
  (l_gI (show gPG 133 143 = some (.getfield 31) by decide +kernel) (kd := 10) (sl := 2) (tc := 0) (fin := 0) (z := 0) (by decide +kernel) (by decide +kernel) (by decide +kernel)).trans <| bd_cg fun x2 hx2 =>
  (l_iconst (show gPG 133 146 = some (.iconst 1) by decide +kernel) (c := 1) (by decide +kernel)).trans <|
  (l_iadd (show gPG 133 147 = some (.iadd) by decide +kernel) ).trans <|
  (l_pI (show gPG 133 148 = some (.putfield 31) by decide +kernel) (kd := 10) (sl := 2) (tc := 0) (fin := 0) (z := 0) (by decide +kernel) (by decide +kernel) (by decide +kernel)).trans <| bd_cg fun m3 hm3 =>
  rfl
theorem b133_151 (d : Nat) (μ : jM) (u0 : Value) (u1 : Value) : jR d 133 151 [u0, u1] [] μ = some (none, μ) :=
  l_ret (show gPG 133 151 = some (.return_) by decide +kernel) (by decide +kernel)
-- Tape.isBlank
theorem b134_0 (d : Nat) (μ : jM) (i0 : Int32) : jR d 134 0 [.int i0] [] μ = (if i0 = 32 then jR d 134 12 [.int i0] [] μ else (if i0 = 10 then jR d 134 12 [.int i0] [] μ else jR d 134 17 [.int i0] [.int 0] μ)) :=
  (l_iload_n (show gPG 134 0 = some (.iload_n 0) by decide +kernel) rfl).trans <|
  (l_bipush (show gPG 134 1 = some (.bipush 32) by decide +kernel) (c := 32) (by decide +kernel)).trans <|
  (l_cmp (show gPG 134 3 = some (.if_icmp .eq 9) by decide +kernel) (t := 12) (by decide +kernel)).trans <| jm_eq.trans <| ite_cg (
  rfl) (
  (l_iload_n (show gPG 134 6 = some (.iload_n 0) by decide +kernel) rfl).trans <|
  (l_bipush (show gPG 134 7 = some (.bipush 10) by decide +kernel) (c := 10) (by decide +kernel)).trans <|
  (l_cmp (show gPG 134 9 = some (.if_icmp .ne 7) by decide +kernel) (t := 16) (by decide +kernel)).trans <| jm_ne.trans <| ite_cg (
  rfl) (
  l_iconst (show gPG 134 16 = some (.iconst 0) by decide +kernel) (c := 0) (by decide +kernel)))
theorem b134_12 (d : Nat) (μ : jM) (u0 : Value) : jR d 134 12 [u0] [] μ = jR d 134 17 [u0] [.int 1] μ :=
  (l_iconst (show gPG 134 12 = some (.iconst 1) by decide +kernel) (c := 1) (by decide +kernel)).trans <|
  l_goto (show gPG 134 13 = some (.goto 4) by decide +kernel) (t := 17) (by decide +kernel)
theorem b134_17 (d : Nat) (μ : jM) (u0 : Value) (s0 : Int32) : jR d 134 17 [u0] [.int s0] μ = (if jrf 4 s0 = true then some (some (.int s0), μ) else none) :=
  l_iret (show gPG 134 17 = some (.ireturn) by decide +kernel) (rc := 4) (by decide +kernel)
-- Tape.isDigit
theorem b135_0 (d : Nat) (μ : jM) (i0 : Int32) : jR d 135 0 [.int i0] [] μ = (if i0 < 48 then jR d 135 16 [.int i0] [] μ else (if 57 < i0 then jR d 135 16 [.int i0] [] μ else jR d 135 17 [.int i0] [.int 1] μ)) :=
  (l_iload_n (show gPG 135 0 = some (.iload_n 0) by decide +kernel) rfl).trans <|
  (l_bipush (show gPG 135 1 = some (.bipush 48) by decide +kernel) (c := 48) (by decide +kernel)).trans <|
  (l_cmp (show gPG 135 3 = some (.if_icmp .lt 13) by decide +kernel) (t := 16) (by decide +kernel)).trans <| jm_lt.trans <| ite_cg (
  rfl) (
  (l_iload_n (show gPG 135 6 = some (.iload_n 0) by decide +kernel) rfl).trans <|
  (l_bipush (show gPG 135 7 = some (.bipush 57) by decide +kernel) (c := 57) (by decide +kernel)).trans <|
  (l_cmp (show gPG 135 9 = some (.if_icmp .gt 7) by decide +kernel) (t := 16) (by decide +kernel)).trans <| jm_gt.trans <| ite_cg (
  rfl) (
  (l_iconst (show gPG 135 12 = some (.iconst 1) by decide +kernel) (c := 1) (by decide +kernel)).trans <|
  l_goto (show gPG 135 13 = some (.goto 4) by decide +kernel) (t := 17) (by decide +kernel)))
theorem b135_16 (d : Nat) (μ : jM) (u0 : Value) : jR d 135 16 [u0] [] μ = jR d 135 17 [u0] [.int 0] μ :=
  l_iconst (show gPG 135 16 = some (.iconst 0) by decide +kernel) (c := 0) (by decide +kernel)
theorem b135_17 (d : Nat) (μ : jM) (u0 : Value) (s0 : Int32) : jR d 135 17 [u0] [.int s0] μ = (if jrf 4 s0 = true then some (some (.int s0), μ) else none) :=
  l_iret (show gPG 135 17 = some (.ireturn) by decide +kernel) (rc := 4) (by decide +kernel)
-- Tape.scanNumber
theorem b136_0 (d : Nat) (μ : jM) (a : Nat) (i1 : Int32) : jR (d + 1) 136 0 [.ref a, .int i1] [] μ = (jgI μ 10 2 (.ref a)).bind fun x1 => (jgI μ 10 1 (.ref a)).bind fun x2 => (if x1 < x2 then (jgR μ 10 0 (.ref a)).bind fun w3 => (jgI μ 10 2 (.ref a)).bind fun x4 => (jaI μ w3 x4).bind fun x5 => (jC d 135 [.int x5] μ).bind fun p6 => jR (d + 1) 136 23 [.ref a, .int i1] (p6.1.toList ++ []) p6.2 else jR (d + 1) 136 67 [.ref a, .int i1] [] μ) :=
  (l_aload_n (show gPG 136 0 = some (.aload_n 0) by decide +kernel) rfl jr_ref).trans <|
  (l_gI (show gPG 136 1 = some (.getfield 31) by decide +kernel) (kd := 10) (sl := 2) (tc := 0) (fin := 0) (z := 0) (by decide +kernel) (by decide +kernel) (by decide +kernel)).trans <| bd_cg fun x1 hx1 =>
  (l_aload_n (show gPG 136 4 = some (.aload_n 0) by decide +kernel) rfl jr_ref).trans <|
  (l_gI (show gPG 136 5 = some (.getfield 24) by decide +kernel) (kd := 10) (sl := 1) (tc := 0) (fin := 0) (z := 0) (by decide +kernel) (by decide +kernel) (by decide +kernel)).trans <| bd_cg fun x2 hx2 =>
  (l_cmp (show gPG 136 8 = some (.if_icmp .ge 59) by decide +kernel) (t := 67) (by decide +kernel)).trans <| jm_ge.trans <| ite_cg (
  (l_aload_n (show gPG 136 11 = some (.aload_n 0) by decide +kernel) rfl jr_ref).trans <|
  (l_gR (show gPG 136 12 = some (.getfield 9) by decide +kernel) (kd := 10) (sl := 0) (tc := 1) (fin := 1) (z := 0) (by decide +kernel) (by decide +kernel) (by decide +kernel)).trans <| bd_cg fun w3 hw3 =>
  (l_aload_n (show gPG 136 15 = some (.aload_n 0) by decide +kernel) rfl jr_ref).trans <|
  (l_gI (show gPG 136 16 = some (.getfield 31) by decide +kernel) (kd := 10) (sl := 2) (tc := 0) (fin := 0) (z := 0) (by decide +kernel) (by decide +kernel) (by decide +kernel)).trans <| bd_cg fun x4 hx4 =>
  (l_iald (show gPG 136 19 = some (.iaload) by decide +kernel) ).trans <| bd_cg fun x5 hx5 =>
  l_callS (u := 2) (as := [.int x5]) (show gPG 136 20 = some (jinvI 2 42) by decide +kernel) (by decide) (cc := 135) (na := 1) (q4 := 0) (z := 12) (rest := []) (by decide +kernel) (by decide +kernel)  rfl (show (1 : Nat) ≤ 1 by decide) rfl cs0 (by decide +kernel) (cai ca0) (fun e => absurd e (by decide))) (
  rfl)
theorem b136_23 (d : Nat) (μ : jM) (a : Nat) (i1 : Int32) (s0 : Int32) : jR d 136 23 [.ref a, .int i1] [.int s0] μ = (if s0 = 0 then jR d 136 67 [.ref a, .int i1] [] μ else (jgR μ 10 5 (.ref a)).bind fun w1 => (jgR μ 10 5 (.ref a)).bind fun w2 => (jaI μ w2 i1).bind fun x3 => (jgR μ 10 0 (.ref a)).bind fun w4 => (jgI μ 10 2 (.ref a)).bind fun x5 => (jaI μ w4 x5).bind fun x6 => (jsI μ w1 i1 (((x3 * 10) + x6) - 48)).bind fun m7 => (jgI m7 10 2 (.ref a)).bind fun x8 => (jpI m7 10 2 0 (.ref a) (x8 + 1)).bind fun m9 => jR d 136 0 [.ref a, .int i1] [] m9) :=
  (l_cmp0 (show gPG 136 23 = some (.ifCond .eq 44) by decide +kernel) (t := 67) (by decide +kernel)).trans <| jm_eq.trans <| ite_cg (
  rfl) (
  (l_aload_n (show gPG 136 26 = some (.aload_n 0) by decide +kernel) rfl jr_ref).trans <|
  (l_gR (show gPG 136 27 = some (.getfield 21) by decide +kernel) (kd := 10) (sl := 5) (tc := 1) (fin := 1) (z := 0) (by decide +kernel) (by decide +kernel) (by decide +kernel)).trans <| bd_cg fun w1 hw1 =>
  (l_iload_n (show gPG 136 30 = some (.iload_n 1) by decide +kernel) rfl).trans <|
  (l_aload_n (show gPG 136 31 = some (.aload_n 0) by decide +kernel) rfl jr_ref).trans <|
  (l_gR (show gPG 136 32 = some (.getfield 21) by decide +kernel) (kd := 10) (sl := 5) (tc := 1) (fin := 1) (z := 0) (by decide +kernel) (by decide +kernel) (by decide +kernel)).trans <| bd_cg fun w2 hw2 =>
  (l_iload_n (show gPG 136 35 = some (.iload_n 1) by decide +kernel) rfl).trans <|
  (l_iald (show gPG 136 36 = some (.iaload) by decide +kernel) ).trans <| bd_cg fun x3 hx3 =>
  (l_bipush (show gPG 136 37 = some (.bipush 10) by decide +kernel) (c := 10) (by decide +kernel)).trans <|
  (l_imul (show gPG 136 39 = some (.imul) by decide +kernel) ).trans <|
  (l_aload_n (show gPG 136 40 = some (.aload_n 0) by decide +kernel) rfl jr_ref).trans <|
  (l_gR (show gPG 136 41 = some (.getfield 9) by decide +kernel) (kd := 10) (sl := 0) (tc := 1) (fin := 1) (z := 0) (by decide +kernel) (by decide +kernel) (by decide +kernel)).trans <| bd_cg fun w4 hw4 =>
  (l_aload_n (show gPG 136 44 = some (.aload_n 0) by decide +kernel) rfl jr_ref).trans <|
  (l_gI (show gPG 136 45 = some (.getfield 31) by decide +kernel) (kd := 10) (sl := 2) (tc := 0) (fin := 0) (z := 0) (by decide +kernel) (by decide +kernel) (by decide +kernel)).trans <| bd_cg fun x5 hx5 =>
  (l_iald (show gPG 136 48 = some (.iaload) by decide +kernel) ).trans <| bd_cg fun x6 hx6 =>
  (l_iadd (show gPG 136 49 = some (.iadd) by decide +kernel) ).trans <|
  (l_bipush (show gPG 136 50 = some (.bipush 48) by decide +kernel) (c := 48) (by decide +kernel)).trans <|
  (l_isub (show gPG 136 52 = some (.isub) by decide +kernel) ).trans <|
  (l_iast (show gPG 136 53 = some (.iastore) by decide +kernel) ).trans <| bd_cg fun m7 hm7 =>
  (l_aload_n (show gPG 136 54 = some (.aload_n 0) by decide +kernel) rfl jr_ref).trans <|
  (l_dup (show gPG 136 55 = some (.dup) by decide +kernel) (jr_cat1 jr_ref)).trans <|
  (l_gI (show gPG 136 56 = some (.getfield 31) by decide +kernel) (kd := 10) (sl := 2) (tc := 0) (fin := 0) (z := 0) (by decide +kernel) (by decide +kernel) (by decide +kernel)).trans <| bd_cg fun x8 hx8 =>
  (l_iconst (show gPG 136 59 = some (.iconst 1) by decide +kernel) (c := 1) (by decide +kernel)).trans <|
  (l_iadd (show gPG 136 60 = some (.iadd) by decide +kernel) ).trans <|
  (l_pI (show gPG 136 61 = some (.putfield 31) by decide +kernel) (kd := 10) (sl := 2) (tc := 0) (fin := 0) (z := 0) (by decide +kernel) (by decide +kernel) (by decide +kernel)).trans <| bd_cg fun m9 hm9 =>
  l_goto (show gPG 136 64 = some (.goto (-64)) by decide +kernel) (t := 0) (by decide +kernel))
theorem b136_67 (d : Nat) (μ : jM) (a : Nat) (i1 : Int32) : jR d 136 67 [.ref a, .int i1] [] μ = (jgR μ 10 3 (.ref a)).bind fun w1 => (jgI μ 10 2 (.ref a)).bind fun x2 => (jgR μ 10 4 (.ref a)).bind fun w3 => (jaI μ w3 i1).bind fun x4 => (if 6 < (x2 - x4) then jR d 136 94 [.ref a, .int i1] [.int 1, .int i1, w1] μ else jR d 136 94 [.ref a, .int i1] [.int 48, .int i1, w1] μ) :=
  (l_aload_n (show gPG 136 67 = some (.aload_n 0) by decide +kernel) rfl jr_ref).trans <|
  (l_gR (show gPG 136 68 = some (.getfield 15) by decide +kernel) (kd := 10) (sl := 3) (tc := 1) (fin := 1) (z := 0) (by decide +kernel) (by decide +kernel) (by decide +kernel)).trans <| bd_cg fun w1 hw1 =>
  (l_iload_n (show gPG 136 71 = some (.iload_n 1) by decide +kernel) rfl).trans <|
  (l_aload_n (show gPG 136 72 = some (.aload_n 0) by decide +kernel) rfl jr_ref).trans <|
  (l_gI (show gPG 136 73 = some (.getfield 31) by decide +kernel) (kd := 10) (sl := 2) (tc := 0) (fin := 0) (z := 0) (by decide +kernel) (by decide +kernel) (by decide +kernel)).trans <| bd_cg fun x2 hx2 =>
  (l_aload_n (show gPG 136 76 = some (.aload_n 0) by decide +kernel) rfl jr_ref).trans <|
  (l_gR (show gPG 136 77 = some (.getfield 18) by decide +kernel) (kd := 10) (sl := 4) (tc := 1) (fin := 1) (z := 0) (by decide +kernel) (by decide +kernel) (by decide +kernel)).trans <| bd_cg fun w3 hw3 =>
  (l_iload_n (show gPG 136 80 = some (.iload_n 1) by decide +kernel) rfl).trans <|
  (l_iald (show gPG 136 81 = some (.iaload) by decide +kernel) ).trans <| bd_cg fun x4 hx4 =>
  (l_isub (show gPG 136 82 = some (.isub) by decide +kernel) ).trans <|
  (l_bipush (show gPG 136 83 = some (.bipush 6) by decide +kernel) (c := 6) (by decide +kernel)).trans <|
  (l_cmp (show gPG 136 85 = some (.if_icmp .le 7) by decide +kernel) (t := 92) (by decide +kernel)).trans <| jm_le.trans <| ite_cg (
  (l_iconst (show gPG 136 88 = some (.iconst 1) by decide +kernel) (c := 1) (by decide +kernel)).trans <|
  l_goto (show gPG 136 89 = some (.goto 5) by decide +kernel) (t := 94) (by decide +kernel)) (
  l_bipush (show gPG 136 92 = some (.bipush 48) by decide +kernel) (c := 48) (by decide +kernel))
theorem b136_94 (d : Nat) (μ : jM) (u0 : Value) (u1 : Value) (s0 : Value) (s1 : Int32) (s2 : Int32) (hs0 : jisref s0 = true) : jR d 136 94 [u0, u1] [.int s2, .int s1, s0] μ = (jsI μ s0 s1 s2).bind fun m1 => some (none, m1) :=
  (l_iast (show gPG 136 94 = some (.iastore) by decide +kernel) ).trans <| bd_cg fun m1 hm1 =>
  l_ret (show gPG 136 95 = some (.return_) by decide +kernel) (by decide +kernel)
-- Tape.isLetter
theorem b137_0 (d : Nat) (μ : jM) (i0 : Int32) : jR d 137 0 [.int i0] [] μ = (if i0 < 97 then jR d 137 16 [.int i0] [] μ else (if 122 < i0 then jR d 137 16 [.int i0] [] μ else jR d 137 17 [.int i0] [.int 1] μ)) :=
  (l_iload_n (show gPG 137 0 = some (.iload_n 0) by decide +kernel) rfl).trans <|
  (l_bipush (show gPG 137 1 = some (.bipush 97) by decide +kernel) (c := 97) (by decide +kernel)).trans <|
  (l_cmp (show gPG 137 3 = some (.if_icmp .lt 13) by decide +kernel) (t := 16) (by decide +kernel)).trans <| jm_lt.trans <| ite_cg (
  rfl) (
  (l_iload_n (show gPG 137 6 = some (.iload_n 0) by decide +kernel) rfl).trans <|
  (l_bipush (show gPG 137 7 = some (.bipush 122) by decide +kernel) (c := 122) (by decide +kernel)).trans <|
  (l_cmp (show gPG 137 9 = some (.if_icmp .gt 7) by decide +kernel) (t := 16) (by decide +kernel)).trans <| jm_gt.trans <| ite_cg (
  rfl) (
  (l_iconst (show gPG 137 12 = some (.iconst 1) by decide +kernel) (c := 1) (by decide +kernel)).trans <|
  l_goto (show gPG 137 13 = some (.goto 4) by decide +kernel) (t := 17) (by decide +kernel)))
theorem b137_16 (d : Nat) (μ : jM) (u0 : Value) : jR d 137 16 [u0] [] μ = jR d 137 17 [u0] [.int 0] μ :=
  l_iconst (show gPG 137 16 = some (.iconst 0) by decide +kernel) (c := 0) (by decide +kernel)
theorem b137_17 (d : Nat) (μ : jM) (u0 : Value) (s0 : Int32) : jR d 137 17 [u0] [.int s0] μ = (if jrf 4 s0 = true then some (some (.int s0), μ) else none) :=
  l_iret (show gPG 137 17 = some (.ireturn) by decide +kernel) (rc := 4) (by decide +kernel)
-- Tape.scanWord
theorem b138_0 (d : Nat) (μ : jM) (a : Nat) (i1 : Int32) : jR d 138 0 [.ref a, .int i1, .retAddr 0] [] μ = (jgI μ 10 2 (.ref a)).bind fun x1 => jR d 138 5 [.ref a, .int i1, .int x1] [] μ :=
  (l_aload_n (show gPG 138 0 = some (.aload_n 0) by decide +kernel) rfl jr_ref).trans <|
  (l_gI (show gPG 138 1 = some (.getfield 31) by decide +kernel) (kd := 10) (sl := 2) (tc := 0) (fin := 0) (z := 0) (by decide +kernel) (by decide +kernel) (by decide +kernel)).trans <| bd_cg fun x1 hx1 =>
  l_istore_n (show gPG 138 4 = some (.istore_n 2) by decide +kernel) (ls := [.ref a, .int i1, .retAddr 0]) (show (2 : Nat) < 3 by decide) (show _ = ([.ref a, .int i1, .int x1] : List Value) from rfl)
theorem b138_5 (d : Nat) (μ : jM) (a : Nat) (i1 : Int32) (i2 : Int32) : jR (d + 1) 138 5 [.ref a, .int i1, .int i2] [] μ = (jgI μ 10 2 (.ref a)).bind fun x1 => (jgI μ 10 1 (.ref a)).bind fun x2 => (if x1 < x2 then (jgR μ 10 0 (.ref a)).bind fun w3 => (jgI μ 10 2 (.ref a)).bind fun x4 => (jaI μ w3 x4).bind fun x5 => (jC d 137 [.int x5] μ).bind fun p6 => jR (d + 1) 138 28 [.ref a, .int i1, .int i2] (p6.1.toList ++ []) p6.2 else jR (d + 1) 138 44 [.ref a, .int i1, .int i2] [] μ) :=
  (l_aload_n (show gPG 138 5 = some (.aload_n 0) by decide +kernel) rfl jr_ref).trans <|
  (l_gI (show gPG 138 6 = some (.getfield 31) by decide +kernel) (kd := 10) (sl := 2) (tc := 0) (fin := 0) (z := 0) (by decide +kernel) (by decide +kernel) (by decide +kernel)).trans <| bd_cg fun x1 hx1 =>
  (l_aload_n (show gPG 138 9 = some (.aload_n 0) by decide +kernel) rfl jr_ref).trans <|
  (l_gI (show gPG 138 10 = some (.getfield 24) by decide +kernel) (kd := 10) (sl := 1) (tc := 0) (fin := 0) (z := 0) (by decide +kernel) (by decide +kernel) (by decide +kernel)).trans <| bd_cg fun x2 hx2 =>
  (l_cmp (show gPG 138 13 = some (.if_icmp .ge 31) by decide +kernel) (t := 44) (by decide +kernel)).trans <| jm_ge.trans <| ite_cg (
  (l_aload_n (show gPG 138 16 = some (.aload_n 0) by decide +kernel) rfl jr_ref).trans <|
  (l_gR (show gPG 138 17 = some (.getfield 9) by decide +kernel) (kd := 10) (sl := 0) (tc := 1) (fin := 1) (z := 0) (by decide +kernel) (by decide +kernel) (by decide +kernel)).trans <| bd_cg fun w3 hw3 =>
  (l_aload_n (show gPG 138 20 = some (.aload_n 0) by decide +kernel) rfl jr_ref).trans <|
  (l_gI (show gPG 138 21 = some (.getfield 31) by decide +kernel) (kd := 10) (sl := 2) (tc := 0) (fin := 0) (z := 0) (by decide +kernel) (by decide +kernel) (by decide +kernel)).trans <| bd_cg fun x4 hx4 =>
  (l_iald (show gPG 138 24 = some (.iaload) by decide +kernel) ).trans <| bd_cg fun x5 hx5 =>
  l_callS (u := 2) (as := [.int x5]) (show gPG 138 25 = some (jinvI 2 48) by decide +kernel) (by decide) (cc := 137) (na := 1) (q4 := 0) (z := 12) (rest := []) (by decide +kernel) (by decide +kernel)  rfl (show (1 : Nat) ≤ 1 by decide) rfl cs0 (by decide +kernel) (cai ca0) (fun e => absurd e (by decide))) (
  rfl)
theorem b138_28 (d : Nat) (μ : jM) (a : Nat) (i1 : Int32) (i2 : Int32) (s0 : Int32) : jR d 138 28 [.ref a, .int i1, .int i2] [.int s0] μ = (if s0 = 0 then jR d 138 44 [.ref a, .int i1, .int i2] [] μ else (jgI μ 10 2 (.ref a)).bind fun x1 => (jpI μ 10 2 0 (.ref a) (x1 + 1)).bind fun m2 => jR d 138 5 [.ref a, .int i1, .int i2] [] m2) :=
  (l_cmp0 (show gPG 138 28 = some (.ifCond .eq 16) by decide +kernel) (t := 44) (by decide +kernel)).trans <| jm_eq.trans <| ite_cg (
  rfl) (
  (l_aload_n (show gPG 138 31 = some (.aload_n 0) by decide +kernel) rfl jr_ref).trans <|
  (l_dup (show gPG 138 32 = some (.dup) by decide +kernel) (jr_cat1 jr_ref)).trans <|
  (l_gI (show gPG 138 33 = some (.getfield 31) by decide +kernel) (kd := 10) (sl := 2) (tc := 0) (fin := 0) (z := 0) (by decide +kernel) (by decide +kernel) (by decide +kernel)).trans <| bd_cg fun x1 hx1 =>
  (l_iconst (show gPG 138 36 = some (.iconst 1) by decide +kernel) (c := 1) (by decide +kernel)).trans <|
  (l_iadd (show gPG 138 37 = some (.iadd) by decide +kernel) ).trans <|
  (l_pI (show gPG 138 38 = some (.putfield 31) by decide +kernel) (kd := 10) (sl := 2) (tc := 0) (fin := 0) (z := 0) (by decide +kernel) (by decide +kernel) (by decide +kernel)).trans <| bd_cg fun m2 hm2 =>
  l_goto (show gPG 138 41 = some (.goto (-36)) by decide +kernel) (t := 5) (by decide +kernel))
theorem b138_44 (d : Nat) (μ : jM) (a : Nat) (i1 : Int32) (i2 : Int32) : jR d 138 44 [.ref a, .int i1, .int i2] [] μ = (jgI μ 10 2 (.ref a)).bind fun x1 => (if (x1 - i2) = 1 then (jgR μ 10 0 (.ref a)).bind fun w2 => (jaI μ w2 i2).bind fun x3 => (if x3 < 100 then (jgR μ 10 3 (.ref a)).bind fun w4 => (jsI μ w4 i1 97).bind fun m5 => (jgR m5 10 5 (.ref a)).bind fun w6 => (jgR m5 10 0 (.ref a)).bind fun w7 => (jaI m5 w7 i2).bind fun x8 => (jsI m5 w6 i1 (x8 - 97)).bind fun m9 => jR d 138 158 [.ref a, .int i1, .int i2] [] m9 else jR d 138 91 [.ref a, .int i1, .int i2] [] μ) else jR d 138 91 [.ref a, .int i1, .int i2] [] μ) :=
  (l_aload_n (show gPG 138 44 = some (.aload_n 0) by decide +kernel) rfl jr_ref).trans <|
  (l_gI (show gPG 138 45 = some (.getfield 31) by decide +kernel) (kd := 10) (sl := 2) (tc := 0) (fin := 0) (z := 0) (by decide +kernel) (by decide +kernel) (by decide +kernel)).trans <| bd_cg fun x1 hx1 =>
  (l_iload_n (show gPG 138 48 = some (.iload_n 2) by decide +kernel) rfl).trans <|
  (l_isub (show gPG 138 49 = some (.isub) by decide +kernel) ).trans <|
  (l_iconst (show gPG 138 50 = some (.iconst 1) by decide +kernel) (c := 1) (by decide +kernel)).trans <|
  (l_cmp (show gPG 138 51 = some (.if_icmp .ne 40) by decide +kernel) (t := 91) (by decide +kernel)).trans <| jm_ne.trans <| ite_cg (
  (l_aload_n (show gPG 138 54 = some (.aload_n 0) by decide +kernel) rfl jr_ref).trans <|
  (l_gR (show gPG 138 55 = some (.getfield 9) by decide +kernel) (kd := 10) (sl := 0) (tc := 1) (fin := 1) (z := 0) (by decide +kernel) (by decide +kernel) (by decide +kernel)).trans <| bd_cg fun w2 hw2 =>
  (l_iload_n (show gPG 138 58 = some (.iload_n 2) by decide +kernel) rfl).trans <|
  (l_iald (show gPG 138 59 = some (.iaload) by decide +kernel) ).trans <| bd_cg fun x3 hx3 =>
  (l_bipush (show gPG 138 60 = some (.bipush 100) by decide +kernel) (c := 100) (by decide +kernel)).trans <|
  (l_cmp (show gPG 138 62 = some (.if_icmp .ge 29) by decide +kernel) (t := 91) (by decide +kernel)).trans <| jm_ge.trans <| ite_cg (
  (l_aload_n (show gPG 138 65 = some (.aload_n 0) by decide +kernel) rfl jr_ref).trans <|
  (l_gR (show gPG 138 66 = some (.getfield 15) by decide +kernel) (kd := 10) (sl := 3) (tc := 1) (fin := 1) (z := 0) (by decide +kernel) (by decide +kernel) (by decide +kernel)).trans <| bd_cg fun w4 hw4 =>
  (l_iload_n (show gPG 138 69 = some (.iload_n 1) by decide +kernel) rfl).trans <|
  (l_bipush (show gPG 138 70 = some (.bipush 97) by decide +kernel) (c := 97) (by decide +kernel)).trans <|
  (l_iast (show gPG 138 72 = some (.iastore) by decide +kernel) ).trans <| bd_cg fun m5 hm5 =>
  (l_aload_n (show gPG 138 73 = some (.aload_n 0) by decide +kernel) rfl jr_ref).trans <|
  (l_gR (show gPG 138 74 = some (.getfield 21) by decide +kernel) (kd := 10) (sl := 5) (tc := 1) (fin := 1) (z := 0) (by decide +kernel) (by decide +kernel) (by decide +kernel)).trans <| bd_cg fun w6 hw6 =>
  (l_iload_n (show gPG 138 77 = some (.iload_n 1) by decide +kernel) rfl).trans <|
  (l_aload_n (show gPG 138 78 = some (.aload_n 0) by decide +kernel) rfl jr_ref).trans <|
  (l_gR (show gPG 138 79 = some (.getfield 9) by decide +kernel) (kd := 10) (sl := 0) (tc := 1) (fin := 1) (z := 0) (by decide +kernel) (by decide +kernel) (by decide +kernel)).trans <| bd_cg fun w7 hw7 =>
  (l_iload_n (show gPG 138 82 = some (.iload_n 2) by decide +kernel) rfl).trans <|
  (l_iald (show gPG 138 83 = some (.iaload) by decide +kernel) ).trans <| bd_cg fun x8 hx8 =>
  (l_bipush (show gPG 138 84 = some (.bipush 97) by decide +kernel) (c := 97) (by decide +kernel)).trans <|
  (l_isub (show gPG 138 86 = some (.isub) by decide +kernel) ).trans <|
  (l_iast (show gPG 138 87 = some (.iastore) by decide +kernel) ).trans <| bd_cg fun m9 hm9 =>
  l_goto (show gPG 138 88 = some (.goto 70) by decide +kernel) (t := 158) (by decide +kernel)) (
  rfl)) (
  rfl)
theorem b138_91 (d : Nat) (μ : jM) (a : Nat) (i1 : Int32) (i2 : Int32) (hx : jX μ) : jR (d + 1) 138 91 [.ref a, .int i1, .int i2] [] μ = (jgR μ 10 3 (.ref a)).bind fun w1 => (if jrecv μ 10 (.ref a) = true then (jC d 139 [.ref a, (jext μ 8), .int i2] μ).bind fun p2 => jR (d + 1) 138 103 [.ref a, .int i1, .int i2] (p2.1.toList ++ [.int i1, w1]) p2.2 else none) :=
  (l_aload_n (show gPG 138 91 = some (.aload_n 0) by decide +kernel) rfl jr_ref).trans <|
  (l_gR (show gPG 138 92 = some (.getfield 15) by decide +kernel) (kd := 10) (sl := 3) (tc := 1) (fin := 1) (z := 0) (by decide +kernel) (by decide +kernel) (by decide +kernel)).trans <| bd_cg fun w1 hw1 =>
  (l_iload_n (show gPG 138 95 = some (.iload_n 1) by decide +kernel) rfl).trans <|
  (l_aload_n (show gPG 138 96 = some (.aload_n 0) by decide +kernel) rfl jr_ref).trans <|
  (l_ldcs (show gPG 138 97 = some (.ldc 58) by decide +kernel) (j := 8) (by decide +kernel) (by decide +kernel)).trans <|
  (l_iload_n (show gPG 138 99 = some (.iload_n 2) by decide +kernel) rfl).trans <|
  l_callV (u := 1) (v := .ref a) (as := [(jext μ 8), .int i2]) (show gPG 138 100 = some (jinvI 1 60) by decide +kernel) (by decide) (cc := 139) (na := 3) (kd := 10) (q4 := 0) (z := 10) (rest := [.int i1, w1]) (by decide +kernel) (by decide +kernel)  rfl (show (3 : Nat) ≤ 5 by decide) rfl (csi (csv (jr_gR hw1) cs0)) (by decide +kernel) (cai (cav (hx.2 8 (by decide) (by decide)) (cav jr_ref ca0)))
theorem b138_103 (d : Nat) (μ : jM) (a : Nat) (u1 : Value) (i2 : Int32) (s0 : Value) (s1 : Int32) (s2 : Int32) (hs0 : jisref s0 = true) (hx : jX μ) : jR (d + 1) 138 103 [.ref a, u1, .int i2] [.int s2, .int s1, s0] μ = (if s2 = 0 then (if jrecv μ 10 (.ref a) = true then (jC d 139 [.ref a, (jext μ 9), .int i2] μ).bind fun p1 => jR (d + 1) 138 118 [.ref a, u1, .int i2] (p1.1.toList ++ [.int s1, s0]) p1.2 else none) else jR (d + 1) 138 157 [.ref a, u1, .int i2] [.int 116, .int s1, s0] μ) :=
  (l_cmp0 (show gPG 138 103 = some (.ifCond .eq 8) by decide +kernel) (t := 111) (by decide +kernel)).trans <| jm_eq.trans <| ite_cg (
  (l_aload_n (show gPG 138 111 = some (.aload_n 0) by decide +kernel) rfl jr_ref).trans <|
  (l_ldcs (show gPG 138 112 = some (.ldc 64) by decide +kernel) (j := 9) (by decide +kernel) (by decide +kernel)).trans <|
  (l_iload_n (show gPG 138 114 = some (.iload_n 2) by decide +kernel) rfl).trans <|
  l_callV (u := 1) (v := .ref a) (as := [(jext μ 9), .int i2]) (show gPG 138 115 = some (jinvI 1 60) by decide +kernel) (by decide) (cc := 139) (na := 3) (kd := 10) (q4 := 0) (z := 10) (rest := [.int s1, s0]) (by decide +kernel) (by decide +kernel)  rfl (show (3 : Nat) ≤ 5 by decide) rfl (csi (csv hs0 cs0)) (by decide +kernel) (cai (cav (hx.2 9 (by decide) (by decide)) (cav jr_ref ca0)))) (
  (l_bipush (show gPG 138 106 = some (.bipush 116) by decide +kernel) (c := 116) (by decide +kernel)).trans <|
  l_goto (show gPG 138 108 = some (.goto 49) by decide +kernel) (t := 157) (by decide +kernel))
theorem b138_118 (d : Nat) (μ : jM) (a : Nat) (u1 : Value) (i2 : Int32) (s0 : Value) (s1 : Int32) (s2 : Int32) (hs0 : jisref s0 = true) (hx : jX μ) : jR (d + 1) 138 118 [.ref a, u1, .int i2] [.int s2, .int s1, s0] μ = (if s2 = 0 then (if jrecv μ 10 (.ref a) = true then (jC d 139 [.ref a, (jext μ 10), .int i2] μ).bind fun p1 => jR (d + 1) 138 133 [.ref a, u1, .int i2] (p1.1.toList ++ [.int s1, s0]) p1.2 else none) else jR (d + 1) 138 157 [.ref a, u1, .int i2] [.int 109, .int s1, s0] μ) :=
  (l_cmp0 (show gPG 138 118 = some (.ifCond .eq 8) by decide +kernel) (t := 126) (by decide +kernel)).trans <| jm_eq.trans <| ite_cg (
  (l_aload_n (show gPG 138 126 = some (.aload_n 0) by decide +kernel) rfl jr_ref).trans <|
  (l_ldcs (show gPG 138 127 = some (.ldc 66) by decide +kernel) (j := 10) (by decide +kernel) (by decide +kernel)).trans <|
  (l_iload_n (show gPG 138 129 = some (.iload_n 2) by decide +kernel) rfl).trans <|
  l_callV (u := 1) (v := .ref a) (as := [(jext μ 10), .int i2]) (show gPG 138 130 = some (jinvI 1 60) by decide +kernel) (by decide) (cc := 139) (na := 3) (kd := 10) (q4 := 0) (z := 10) (rest := [.int s1, s0]) (by decide +kernel) (by decide +kernel)  rfl (show (3 : Nat) ≤ 5 by decide) rfl (csi (csv hs0 cs0)) (by decide +kernel) (cai (cav (hx.2 10 (by decide) (by decide)) (cav jr_ref ca0)))) (
  (l_bipush (show gPG 138 121 = some (.bipush 109) by decide +kernel) (c := 109) (by decide +kernel)).trans <|
  l_goto (show gPG 138 123 = some (.goto 34) by decide +kernel) (t := 157) (by decide +kernel))
theorem b138_133 (d : Nat) (μ : jM) (a : Nat) (u1 : Value) (i2 : Int32) (s0 : Value) (s1 : Int32) (s2 : Int32) (hs0 : jisref s0 = true) (hx : jX μ) : jR (d + 1) 138 133 [.ref a, u1, .int i2] [.int s2, .int s1, s0] μ = (if s2 = 0 then (if jrecv μ 10 (.ref a) = true then (jC d 139 [.ref a, (jext μ 11), .int i2] μ).bind fun p1 => jR (d + 1) 138 148 [.ref a, u1, .int i2] (p1.1.toList ++ [.int s1, s0]) p1.2 else none) else jR (d + 1) 138 157 [.ref a, u1, .int i2] [.int 108, .int s1, s0] μ) :=
  (l_cmp0 (show gPG 138 133 = some (.ifCond .eq 8) by decide +kernel) (t := 141) (by decide +kernel)).trans <| jm_eq.trans <| ite_cg (
  (l_aload_n (show gPG 138 141 = some (.aload_n 0) by decide +kernel) rfl jr_ref).trans <|
  (l_ldcs (show gPG 138 142 = some (.ldc 68) by decide +kernel) (j := 11) (by decide +kernel) (by decide +kernel)).trans <|
  (l_iload_n (show gPG 138 144 = some (.iload_n 2) by decide +kernel) rfl).trans <|
  l_callV (u := 1) (v := .ref a) (as := [(jext μ 11), .int i2]) (show gPG 138 145 = some (jinvI 1 60) by decide +kernel) (by decide) (cc := 139) (na := 3) (kd := 10) (q4 := 0) (z := 10) (rest := [.int s1, s0]) (by decide +kernel) (by decide +kernel)  rfl (show (3 : Nat) ≤ 5 by decide) rfl (csi (csv hs0 cs0)) (by decide +kernel) (cai (cav (hx.2 11 (by decide) (by decide)) (cav jr_ref ca0)))) (
  (l_bipush (show gPG 138 136 = some (.bipush 108) by decide +kernel) (c := 108) (by decide +kernel)).trans <|
  l_goto (show gPG 138 138 = some (.goto 19) by decide +kernel) (t := 157) (by decide +kernel))
theorem b138_148 (d : Nat) (μ : jM) (u0 : Value) (u1 : Value) (u2 : Value) (s0 : Value) (s1 : Int32) (s2 : Int32) (hs0 : jisref s0 = true) : jR d 138 148 [u0, u1, u2] [.int s2, .int s1, s0] μ = (if s2 = 0 then jR d 138 157 [u0, u1, u2] [.int 1, .int s1, s0] μ else jR d 138 157 [u0, u1, u2] [.int 110, .int s1, s0] μ) :=
  (l_cmp0 (show gPG 138 148 = some (.ifCond .eq 8) by decide +kernel) (t := 156) (by decide +kernel)).trans <| jm_eq.trans <| ite_cg (
  l_iconst (show gPG 138 156 = some (.iconst 1) by decide +kernel) (c := 1) (by decide +kernel)) (
  (l_bipush (show gPG 138 151 = some (.bipush 110) by decide +kernel) (c := 110) (by decide +kernel)).trans <|
  l_goto (show gPG 138 153 = some (.goto 4) by decide +kernel) (t := 157) (by decide +kernel))
theorem b138_157 (d : Nat) (μ : jM) (u0 : Value) (u1 : Value) (u2 : Value) (s0 : Value) (s1 : Int32) (s2 : Int32) (hs0 : jisref s0 = true) : jR d 138 157 [u0, u1, u2] [.int s2, .int s1, s0] μ = (jsI μ s0 s1 s2).bind fun m1 => jR d 138 158 [u0, u1, u2] [] m1 :=
  (l_iast (show gPG 138 157 = some (.iastore) by decide +kernel) ).trans <| bd_cg fun m1 hm1 =>
  rfl
theorem b138_158 (d : Nat) (μ : jM) (u0 : Value) (u1 : Value) (u2 : Value) : jR d 138 158 [u0, u1, u2] [] μ = some (none, μ) :=
  l_ret (show gPG 138 158 = some (.return_) by decide +kernel) (by decide +kernel)
-- Tape.reads
theorem b139_0 (d : Nat) (μ : jM) (a : Nat) (r1 : Value) (i2 : Int32) (h1 : jisref r1 = true) : jR (d + 1) 139 0 [.ref a, r1, .int i2, .retAddr 0] [] μ = (jgI μ 10 2 (.ref a)).bind fun x1 => (if jrecv μ 0 r1 = true then (jC d 281 [r1] μ).bind fun p2 => jR (d + 1) 139 10 [.ref a, r1, .int i2, .retAddr 0] (p2.1.toList ++ [.int (x1 - i2)]) p2.2 else none) :=
  (l_aload_n (show gPG 139 0 = some (.aload_n 0) by decide +kernel) rfl jr_ref).trans <|
  (l_gI (show gPG 139 1 = some (.getfield 31) by decide +kernel) (kd := 10) (sl := 2) (tc := 0) (fin := 0) (z := 0) (by decide +kernel) (by decide +kernel) (by decide +kernel)).trans <| bd_cg fun x1 hx1 =>
  (l_iload_n (show gPG 139 4 = some (.iload_n 2) by decide +kernel) rfl).trans <|
  (l_isub (show gPG 139 5 = some (.isub) by decide +kernel) ).trans <|
  (l_aload_n (show gPG 139 6 = some (.aload_n 1) by decide +kernel) rfl h1).trans <|
  l_callV (u := 1) (v := r1) (as := []) (show gPG 139 7 = some (jinvI 1 70) by decide +kernel) (by decide) (cc := 281) (na := 1) (kd := 0) (q4 := 0) (z := 10) (rest := [.int (x1 - i2)]) (by decide +kernel) (by decide +kernel)  rfl (show (1 : Nat) ≤ 2 by decide) rfl (csi cs0) (by decide +kernel) (cav h1 ca0)
theorem b139_10 (d : Nat) (μ : jM) (a : Nat) (r1 : Value) (i2 : Int32) (u3 : Value) (s0 : Int32) (s1 : Int32) (h1 : jisref r1 = true) : jR d 139 10 [.ref a, r1, .int i2, u3] [.int s1, .int s0] μ = (if s0 = s1 then jR d 139 17 [.ref a, r1, .int i2, .int 0] [] μ else some (some (.int 0), μ)) :=
  (l_cmp (show gPG 139 10 = some (.if_icmp .eq 5) by decide +kernel) (t := 15) (by decide +kernel)).trans <| jm_eq.trans <| ite_cg (
  (l_iconst (show gPG 139 15 = some (.iconst 0) by decide +kernel) (c := 0) (by decide +kernel)).trans <|
  l_istore_n (show gPG 139 16 = some (.istore_n 3) by decide +kernel) (ls := [.ref a, r1, .int i2, u3]) (show (3 : Nat) < 4 by decide) (show _ = ([.ref a, r1, .int i2, .int 0] : List Value) from rfl)) (
  (l_iconst (show gPG 139 13 = some (.iconst 0) by decide +kernel) (c := 0) (by decide +kernel)).trans <|
  l_iretK (show gPG 139 14 = some (.ireturn) by decide +kernel) (by decide +kernel))
theorem b139_17 (d : Nat) (μ : jM) (a : Nat) (r1 : Value) (i2 : Int32) (i3 : Int32) (h1 : jisref r1 = true) : jR (d + 1) 139 17 [.ref a, r1, .int i2, .int i3] [] μ = (if jrecv μ 0 r1 = true then (jC d 281 [r1] μ).bind fun p1 => jR (d + 1) 139 22 [.ref a, r1, .int i2, .int i3] (p1.1.toList ++ [.int i3]) p1.2 else none) :=
  (l_iload_n (show gPG 139 17 = some (.iload_n 3) by decide +kernel) rfl).trans <|
  (l_aload_n (show gPG 139 18 = some (.aload_n 1) by decide +kernel) rfl h1).trans <|
  l_callV (u := 1) (v := r1) (as := []) (show gPG 139 19 = some (jinvI 1 70) by decide +kernel) (by decide) (cc := 281) (na := 1) (kd := 0) (q4 := 0) (z := 10) (rest := [.int i3]) (by decide +kernel) (by decide +kernel)  rfl (show (1 : Nat) ≤ 2 by decide) rfl (csi cs0) (by decide +kernel) (cav h1 ca0)
theorem b139_22 (d : Nat) (μ : jM) (a : Nat) (r1 : Value) (i2 : Int32) (i3 : Int32) (s0 : Int32) (s1 : Int32) (h1 : jisref r1 = true) : jR (d + 1) 139 22 [.ref a, r1, .int i2, .int i3] [.int s1, .int s0] μ = (if s0 < s1 then (jgR μ 10 0 (.ref a)).bind fun w1 => (jaI μ w1 (i2 + i3)).bind fun x2 => (if jrecv μ 0 r1 = true then (jC d 283 [r1, .int i3] μ).bind fun p3 => jR (d + 1) 139 38 [.ref a, r1, .int i2, .int i3] (p3.1.toList ++ [.int x2]) p3.2 else none) else some (some (.int 1), μ)) :=
  (l_cmp (show gPG 139 22 = some (.if_icmp .ge 27) by decide +kernel) (t := 49) (by decide +kernel)).trans <| jm_ge.trans <| ite_cg (
  (l_aload_n (show gPG 139 25 = some (.aload_n 0) by decide +kernel) rfl jr_ref).trans <|
  (l_gR (show gPG 139 26 = some (.getfield 9) by decide +kernel) (kd := 10) (sl := 0) (tc := 1) (fin := 1) (z := 0) (by decide +kernel) (by decide +kernel) (by decide +kernel)).trans <| bd_cg fun w1 hw1 =>
  (l_iload_n (show gPG 139 29 = some (.iload_n 2) by decide +kernel) rfl).trans <|
  (l_iload_n (show gPG 139 30 = some (.iload_n 3) by decide +kernel) rfl).trans <|
  (l_iadd (show gPG 139 31 = some (.iadd) by decide +kernel) ).trans <|
  (l_iald (show gPG 139 32 = some (.iaload) by decide +kernel) ).trans <| bd_cg fun x2 hx2 =>
  (l_aload_n (show gPG 139 33 = some (.aload_n 1) by decide +kernel) rfl h1).trans <|
  (l_iload_n (show gPG 139 34 = some (.iload_n 3) by decide +kernel) rfl).trans <|
  l_callV (u := 1) (v := r1) (as := [.int i3]) (show gPG 139 35 = some (jinvI 1 76) by decide +kernel) (by decide) (cc := 283) (na := 2) (kd := 0) (q4 := 0) (z := 10) (rest := [.int x2]) (by decide +kernel) (by decide +kernel)  rfl (show (2 : Nat) ≤ 3 by decide) rfl (csi cs0) (by decide +kernel) (cai (cav h1 ca0))) (
  (l_iconst (show gPG 139 49 = some (.iconst 1) by decide +kernel) (c := 1) (by decide +kernel)).trans <|
  l_iretK (show gPG 139 50 = some (.ireturn) by decide +kernel) (by decide +kernel))
theorem b139_38 (d : Nat) (μ : jM) (a : Nat) (r1 : Value) (i2 : Int32) (i3 : Int32) (s0 : Int32) (s1 : Int32) (h1 : jisref r1 = true) : jR d 139 38 [.ref a, r1, .int i2, .int i3] [.int s1, .int s0] μ = (if s0 = s1 then jR d 139 17 [.ref a, r1, .int i2, .int (i3 + 1)] [] μ else some (some (.int 0), μ)) :=
  (l_cmp (show gPG 139 38 = some (.if_icmp .eq 5) by decide +kernel) (t := 43) (by decide +kernel)).trans <| jm_eq.trans <| ite_cg (
  (l_iinc (show gPG 139 43 = some (.iinc 3 1) by decide +kernel) (c := 1) (by decide +kernel) rfl (show _ = ([.ref a, r1, .int i2, .int (i3 + 1)] : List Value) from rfl)).trans <|
  l_goto (show gPG 139 46 = some (.goto (-29)) by decide +kernel) (t := 17) (by decide +kernel)) (
  (l_iconst (show gPG 139 41 = some (.iconst 0) by decide +kernel) (c := 0) (by decide +kernel)).trans <|
  l_iretK (show gPG 139 42 = some (.ireturn) by decide +kernel) (by decide +kernel))
-- Tape.signOf
theorem sw140_1 (x : Int32) : ((jsw (.tableswitch 125 35 61 #[123, 123, 125, 125, 125, 123, 123, 123, 123, 125, 123, 125, 125, 125, 125, 125, 125, 125, 125, 125, 125, 125, 125, 123, 125, 125, 123]) x).bind fun o => jtgt 1 o) = if x = 35 then some 124 else if x = 36 then some 124 else if x = 37 then some 126 else if x = 38 then some 126 else if x = 39 then some 126 else if x = 40 then some 124 else if x = 41 then some 124 else if x = 42 then some 124 else if x = 43 then some 124 else if x = 44 then some 126 else if x = 45 then some 124 else if x = 46 then some 126 else if x = 47 then some 126 else if x = 48 then some 126 else if x = 49 then some 126 else if x = 50 then some 126 else if x = 51 then some 126 else if x = 52 then some 126 else if x = 53 then some 126 else if x = 54 then some 126 else if x = 55 then some 126 else if x = 56 then some 126 else if x = 57 then some 126 else if x = 58 then some 124 else if x = 59 then some 126 else if x = 60 then some 126 else if x = 61 then some 124 else some 126 := by
  by_cases h0 : x = 35
  · subst h0; decide +kernel
  by_cases h1 : x = 36
  · subst h1; decide +kernel
  by_cases h2 : x = 37
  · subst h2; decide +kernel
  by_cases h3 : x = 38
  · subst h3; decide +kernel
  by_cases h4 : x = 39
  · subst h4; decide +kernel
  by_cases h5 : x = 40
  · subst h5; decide +kernel
  by_cases h6 : x = 41
  · subst h6; decide +kernel
  by_cases h7 : x = 42
  · subst h7; decide +kernel
  by_cases h8 : x = 43
  · subst h8; decide +kernel
  by_cases h9 : x = 44
  · subst h9; decide +kernel
  by_cases h10 : x = 45
  · subst h10; decide +kernel
  by_cases h11 : x = 46
  · subst h11; decide +kernel
  by_cases h12 : x = 47
  · subst h12; decide +kernel
  by_cases h13 : x = 48
  · subst h13; decide +kernel
  by_cases h14 : x = 49
  · subst h14; decide +kernel
  by_cases h15 : x = 50
  · subst h15; decide +kernel
  by_cases h16 : x = 51
  · subst h16; decide +kernel
  by_cases h17 : x = 52
  · subst h17; decide +kernel
  by_cases h18 : x = 53
  · subst h18; decide +kernel
  by_cases h19 : x = 54
  · subst h19; decide +kernel
  by_cases h20 : x = 55
  · subst h20; decide +kernel
  by_cases h21 : x = 56
  · subst h21; decide +kernel
  by_cases h22 : x = 57
  · subst h22; decide +kernel
  by_cases h23 : x = 58
  · subst h23; decide +kernel
  by_cases h24 : x = 59
  · subst h24; decide +kernel
  by_cases h25 : x = 60
  · subst h25; decide +kernel
  by_cases h26 : x = 61
  · subst h26; decide +kernel
  have g0 : x.toInt ≠ 35 := fun e => h0 (Int32.toInt_inj.mp (e.trans (by decide +kernel)))
  have g1 : x.toInt ≠ 36 := fun e => h1 (Int32.toInt_inj.mp (e.trans (by decide +kernel)))
  have g2 : x.toInt ≠ 37 := fun e => h2 (Int32.toInt_inj.mp (e.trans (by decide +kernel)))
  have g3 : x.toInt ≠ 38 := fun e => h3 (Int32.toInt_inj.mp (e.trans (by decide +kernel)))
  have g4 : x.toInt ≠ 39 := fun e => h4 (Int32.toInt_inj.mp (e.trans (by decide +kernel)))
  have g5 : x.toInt ≠ 40 := fun e => h5 (Int32.toInt_inj.mp (e.trans (by decide +kernel)))
  have g6 : x.toInt ≠ 41 := fun e => h6 (Int32.toInt_inj.mp (e.trans (by decide +kernel)))
  have g7 : x.toInt ≠ 42 := fun e => h7 (Int32.toInt_inj.mp (e.trans (by decide +kernel)))
  have g8 : x.toInt ≠ 43 := fun e => h8 (Int32.toInt_inj.mp (e.trans (by decide +kernel)))
  have g9 : x.toInt ≠ 44 := fun e => h9 (Int32.toInt_inj.mp (e.trans (by decide +kernel)))
  have g10 : x.toInt ≠ 45 := fun e => h10 (Int32.toInt_inj.mp (e.trans (by decide +kernel)))
  have g11 : x.toInt ≠ 46 := fun e => h11 (Int32.toInt_inj.mp (e.trans (by decide +kernel)))
  have g12 : x.toInt ≠ 47 := fun e => h12 (Int32.toInt_inj.mp (e.trans (by decide +kernel)))
  have g13 : x.toInt ≠ 48 := fun e => h13 (Int32.toInt_inj.mp (e.trans (by decide +kernel)))
  have g14 : x.toInt ≠ 49 := fun e => h14 (Int32.toInt_inj.mp (e.trans (by decide +kernel)))
  have g15 : x.toInt ≠ 50 := fun e => h15 (Int32.toInt_inj.mp (e.trans (by decide +kernel)))
  have g16 : x.toInt ≠ 51 := fun e => h16 (Int32.toInt_inj.mp (e.trans (by decide +kernel)))
  have g17 : x.toInt ≠ 52 := fun e => h17 (Int32.toInt_inj.mp (e.trans (by decide +kernel)))
  have g18 : x.toInt ≠ 53 := fun e => h18 (Int32.toInt_inj.mp (e.trans (by decide +kernel)))
  have g19 : x.toInt ≠ 54 := fun e => h19 (Int32.toInt_inj.mp (e.trans (by decide +kernel)))
  have g20 : x.toInt ≠ 55 := fun e => h20 (Int32.toInt_inj.mp (e.trans (by decide +kernel)))
  have g21 : x.toInt ≠ 56 := fun e => h21 (Int32.toInt_inj.mp (e.trans (by decide +kernel)))
  have g22 : x.toInt ≠ 57 := fun e => h22 (Int32.toInt_inj.mp (e.trans (by decide +kernel)))
  have g23 : x.toInt ≠ 58 := fun e => h23 (Int32.toInt_inj.mp (e.trans (by decide +kernel)))
  have g24 : x.toInt ≠ 59 := fun e => h24 (Int32.toInt_inj.mp (e.trans (by decide +kernel)))
  have g25 : x.toInt ≠ 60 := fun e => h25 (Int32.toInt_inj.mp (e.trans (by decide +kernel)))
  have g26 : x.toInt ≠ 61 := fun e => h26 (Int32.toInt_inj.mp (e.trans (by decide +kernel)))
  have e : jsw (.tableswitch 125 35 61 #[123, 123, 125, 125, 125, 123, 123, 123, 123, 125, 123, 125, 125, 125, 125, 125, 125, 125, 125, 125, 125, 125, 125, 123, 125, 125, 123]) x = some 125 := by
    show (if x.toInt < 35 ∨ 61 < x.toInt then _ else _) = _
    rw [if_pos (by omega)]
  rw [e]
  simp only [Option.bind_some, h0, if_false, h1, if_false, h2, if_false, h3, if_false, h4, if_false, h5, if_false, h6, if_false, h7, if_false, h8, if_false, h9, if_false, h10, if_false, h11, if_false, h12, if_false, h13, if_false, h14, if_false, h15, if_false, h16, if_false, h17, if_false, h18, if_false, h19, if_false, h20, if_false, h21, if_false, h22, if_false, h23, if_false, h24, if_false, h25, if_false, h26, if_false]
  decide +kernel
theorem b140_0 (d : Nat) (μ : jM) (i0 : Int32) : jR d 140 0 [.int i0] [] μ = (if i0 = 35 then some (some (.int i0), μ) else (if i0 = 36 then some (some (.int i0), μ) else (if i0 = 37 then some (some (.int 1), μ) else (if i0 = 38 then some (some (.int 1), μ) else (if i0 = 39 then some (some (.int 1), μ) else (if i0 = 40 then some (some (.int i0), μ) else (if i0 = 41 then some (some (.int i0), μ) else (if i0 = 42 then some (some (.int i0), μ) else (if i0 = 43 then some (some (.int i0), μ) else (if i0 = 44 then some (some (.int 1), μ) else (if i0 = 45 then some (some (.int i0), μ) else (if i0 = 46 then some (some (.int 1), μ) else (if i0 = 47 then some (some (.int 1), μ) else (if i0 = 48 then some (some (.int 1), μ) else (if i0 = 49 then some (some (.int 1), μ) else (if i0 = 50 then some (some (.int 1), μ) else (if i0 = 51 then some (some (.int 1), μ) else (if i0 = 52 then some (some (.int 1), μ) else (if i0 = 53 then some (some (.int 1), μ) else (if i0 = 54 then some (some (.int 1), μ) else (if i0 = 55 then some (some (.int 1), μ) else (if i0 = 56 then some (some (.int 1), μ) else (if i0 = 57 then some (some (.int 1), μ) else (if i0 = 58 then some (some (.int i0), μ) else (if i0 = 59 then some (some (.int 1), μ) else (if i0 = 60 then some (some (.int 1), μ) else (if i0 = 61 then some (some (.int i0), μ) else some (some (.int 1), μ)))))))))))))))))))))))))))) :=
  (l_iload_n (show gPG 140 0 = some (.iload_n 0) by decide +kernel) rfl).trans <|
  (l_tsw (show gPG 140 1 = some (.tableswitch 125 35 61 #[123, 123, 125, 125, 125, 123, 123, 123, 123, 125, 123, 125, 125, 125, 125, 125, 125, 125, 125, 125, 125, 125, 125, 123, 125, 125, 123]) by decide +kernel) sw140_1).trans <| ite_bd (
  (l_iload_n (show gPG 140 124 = some (.iload_n 0) by decide +kernel) rfl).trans <|
  l_iret1 (show gPG 140 125 = some (.ireturn) by decide +kernel) (by decide +kernel)) (
  ite_bd (
  (l_iload_n (show gPG 140 124 = some (.iload_n 0) by decide +kernel) rfl).trans <|
  l_iret1 (show gPG 140 125 = some (.ireturn) by decide +kernel) (by decide +kernel)) (
  ite_bd (
  (l_iconst (show gPG 140 126 = some (.iconst 1) by decide +kernel) (c := 1) (by decide +kernel)).trans <|
  l_iret1 (show gPG 140 127 = some (.ireturn) by decide +kernel) (by decide +kernel)) (
  ite_bd (
  (l_iconst (show gPG 140 126 = some (.iconst 1) by decide +kernel) (c := 1) (by decide +kernel)).trans <|
  l_iret1 (show gPG 140 127 = some (.ireturn) by decide +kernel) (by decide +kernel)) (
  ite_bd (
  (l_iconst (show gPG 140 126 = some (.iconst 1) by decide +kernel) (c := 1) (by decide +kernel)).trans <|
  l_iret1 (show gPG 140 127 = some (.ireturn) by decide +kernel) (by decide +kernel)) (
  ite_bd (
  (l_iload_n (show gPG 140 124 = some (.iload_n 0) by decide +kernel) rfl).trans <|
  l_iret1 (show gPG 140 125 = some (.ireturn) by decide +kernel) (by decide +kernel)) (
  ite_bd (
  (l_iload_n (show gPG 140 124 = some (.iload_n 0) by decide +kernel) rfl).trans <|
  l_iret1 (show gPG 140 125 = some (.ireturn) by decide +kernel) (by decide +kernel)) (
  ite_bd (
  (l_iload_n (show gPG 140 124 = some (.iload_n 0) by decide +kernel) rfl).trans <|
  l_iret1 (show gPG 140 125 = some (.ireturn) by decide +kernel) (by decide +kernel)) (
  ite_bd (
  (l_iload_n (show gPG 140 124 = some (.iload_n 0) by decide +kernel) rfl).trans <|
  l_iret1 (show gPG 140 125 = some (.ireturn) by decide +kernel) (by decide +kernel)) (
  ite_bd (
  (l_iconst (show gPG 140 126 = some (.iconst 1) by decide +kernel) (c := 1) (by decide +kernel)).trans <|
  l_iret1 (show gPG 140 127 = some (.ireturn) by decide +kernel) (by decide +kernel)) (
  ite_bd (
  (l_iload_n (show gPG 140 124 = some (.iload_n 0) by decide +kernel) rfl).trans <|
  l_iret1 (show gPG 140 125 = some (.ireturn) by decide +kernel) (by decide +kernel)) (
  ite_bd (
  (l_iconst (show gPG 140 126 = some (.iconst 1) by decide +kernel) (c := 1) (by decide +kernel)).trans <|
  l_iret1 (show gPG 140 127 = some (.ireturn) by decide +kernel) (by decide +kernel)) (
  ite_bd (
  (l_iconst (show gPG 140 126 = some (.iconst 1) by decide +kernel) (c := 1) (by decide +kernel)).trans <|
  l_iret1 (show gPG 140 127 = some (.ireturn) by decide +kernel) (by decide +kernel)) (
  ite_bd (
  (l_iconst (show gPG 140 126 = some (.iconst 1) by decide +kernel) (c := 1) (by decide +kernel)).trans <|
  l_iret1 (show gPG 140 127 = some (.ireturn) by decide +kernel) (by decide +kernel)) (
  ite_bd (
  (l_iconst (show gPG 140 126 = some (.iconst 1) by decide +kernel) (c := 1) (by decide +kernel)).trans <|
  l_iret1 (show gPG 140 127 = some (.ireturn) by decide +kernel) (by decide +kernel)) (
  ite_bd (
  (l_iconst (show gPG 140 126 = some (.iconst 1) by decide +kernel) (c := 1) (by decide +kernel)).trans <|
  l_iret1 (show gPG 140 127 = some (.ireturn) by decide +kernel) (by decide +kernel)) (
  ite_bd (
  (l_iconst (show gPG 140 126 = some (.iconst 1) by decide +kernel) (c := 1) (by decide +kernel)).trans <|
  l_iret1 (show gPG 140 127 = some (.ireturn) by decide +kernel) (by decide +kernel)) (
  ite_bd (
  (l_iconst (show gPG 140 126 = some (.iconst 1) by decide +kernel) (c := 1) (by decide +kernel)).trans <|
  l_iret1 (show gPG 140 127 = some (.ireturn) by decide +kernel) (by decide +kernel)) (
  ite_bd (
  (l_iconst (show gPG 140 126 = some (.iconst 1) by decide +kernel) (c := 1) (by decide +kernel)).trans <|
  l_iret1 (show gPG 140 127 = some (.ireturn) by decide +kernel) (by decide +kernel)) (
  ite_bd (
  (l_iconst (show gPG 140 126 = some (.iconst 1) by decide +kernel) (c := 1) (by decide +kernel)).trans <|
  l_iret1 (show gPG 140 127 = some (.ireturn) by decide +kernel) (by decide +kernel)) (
  ite_bd (
  (l_iconst (show gPG 140 126 = some (.iconst 1) by decide +kernel) (c := 1) (by decide +kernel)).trans <|
  l_iret1 (show gPG 140 127 = some (.ireturn) by decide +kernel) (by decide +kernel)) (
  ite_bd (
  (l_iconst (show gPG 140 126 = some (.iconst 1) by decide +kernel) (c := 1) (by decide +kernel)).trans <|
  l_iret1 (show gPG 140 127 = some (.ireturn) by decide +kernel) (by decide +kernel)) (
  ite_bd (
  (l_iconst (show gPG 140 126 = some (.iconst 1) by decide +kernel) (c := 1) (by decide +kernel)).trans <|
  l_iret1 (show gPG 140 127 = some (.ireturn) by decide +kernel) (by decide +kernel)) (
  ite_bd (
  (l_iload_n (show gPG 140 124 = some (.iload_n 0) by decide +kernel) rfl).trans <|
  l_iret1 (show gPG 140 125 = some (.ireturn) by decide +kernel) (by decide +kernel)) (
  ite_bd (
  (l_iconst (show gPG 140 126 = some (.iconst 1) by decide +kernel) (c := 1) (by decide +kernel)).trans <|
  l_iret1 (show gPG 140 127 = some (.ireturn) by decide +kernel) (by decide +kernel)) (
  ite_bd (
  (l_iconst (show gPG 140 126 = some (.iconst 1) by decide +kernel) (c := 1) (by decide +kernel)).trans <|
  l_iret1 (show gPG 140 127 = some (.ireturn) by decide +kernel) (by decide +kernel)) (
  ite_bd (
  (l_iload_n (show gPG 140 124 = some (.iload_n 0) by decide +kernel) rfl).trans <|
  l_iret1 (show gPG 140 125 = some (.ireturn) by decide +kernel) (by decide +kernel)) (
  sm_bd (
  (l_iconst (show gPG 140 126 = some (.iconst 1) by decide +kernel) (c := 1) (by decide +kernel)).trans <|
  l_iret1 (show gPG 140 127 = some (.ireturn) by decide +kernel) (by decide +kernel)))))))))))))))))))))))))))))
-- Tape.token
theorem b141_0 (d : Nat) (μ : jM) (a : Nat) : jR d 141 0 [.ref a] [] μ = (jgR μ 10 3 (.ref a)).bind fun w1 => (jgI μ 10 6 (.ref a)).bind fun x2 => (jaI μ w1 x2).bind fun x3 => some (some (.int x3), μ) :=
  (l_aload_n (show gPG 141 0 = some (.aload_n 0) by decide +kernel) rfl jr_ref).trans <|
  (l_gR (show gPG 141 1 = some (.getfield 15) by decide +kernel) (kd := 10) (sl := 3) (tc := 1) (fin := 1) (z := 0) (by decide +kernel) (by decide +kernel) (by decide +kernel)).trans <| bd_cg fun w1 hw1 =>
  (l_aload_n (show gPG 141 4 = some (.aload_n 0) by decide +kernel) rfl jr_ref).trans <|
  (l_gI (show gPG 141 5 = some (.getfield 28) by decide +kernel) (kd := 10) (sl := 6) (tc := 0) (fin := 0) (z := 0) (by decide +kernel) (by decide +kernel) (by decide +kernel)).trans <| bd_cg fun x2 hx2 =>
  (l_iald (show gPG 141 8 = some (.iaload) by decide +kernel) ).trans <| bd_cg fun x3 hx3 =>
  l_iret1 (show gPG 141 9 = some (.ireturn) by decide +kernel) (by decide +kernel)
-- Tape.advance
theorem b142_0 (d : Nat) (μ : jM) (a : Nat) : jR d 142 0 [.ref a] [] μ = (jgI μ 10 6 (.ref a)).bind fun x1 => (if x1 < 40 then (jgI μ 10 6 (.ref a)).bind fun x2 => (jpI μ 10 6 0 (.ref a) (x2 + 1)).bind fun m3 => jR d 142 19 [.ref a] [] m3 else jR d 142 19 [.ref a] [] μ) :=
  (l_aload_n (show gPG 142 0 = some (.aload_n 0) by decide +kernel) rfl jr_ref).trans <|
  (l_gI (show gPG 142 1 = some (.getfield 28) by decide +kernel) (kd := 10) (sl := 6) (tc := 0) (fin := 0) (z := 0) (by decide +kernel) (by decide +kernel) (by decide +kernel)).trans <| bd_cg fun x1 hx1 =>
  (l_bipush (show gPG 142 4 = some (.bipush 40) by decide +kernel) (c := 40) (by decide +kernel)).trans <|
  (l_cmp (show gPG 142 6 = some (.if_icmp .ge 13) by decide +kernel) (t := 19) (by decide +kernel)).trans <| jm_ge.trans <| ite_cg (
  (l_aload_n (show gPG 142 9 = some (.aload_n 0) by decide +kernel) rfl jr_ref).trans <|
  (l_dup (show gPG 142 10 = some (.dup) by decide +kernel) (jr_cat1 jr_ref)).trans <|
  (l_gI (show gPG 142 11 = some (.getfield 28) by decide +kernel) (kd := 10) (sl := 6) (tc := 0) (fin := 0) (z := 0) (by decide +kernel) (by decide +kernel) (by decide +kernel)).trans <| bd_cg fun x2 hx2 =>
  (l_iconst (show gPG 142 14 = some (.iconst 1) by decide +kernel) (c := 1) (by decide +kernel)).trans <|
  (l_iadd (show gPG 142 15 = some (.iadd) by decide +kernel) ).trans <|
  (l_pI (show gPG 142 16 = some (.putfield 28) by decide +kernel) (kd := 10) (sl := 6) (tc := 0) (fin := 0) (z := 0) (by decide +kernel) (by decide +kernel) (by decide +kernel)).trans <| bd_cg fun m3 hm3 =>
  rfl) (
  rfl)
theorem b142_19 (d : Nat) (μ : jM) (u0 : Value) : jR d 142 19 [u0] [] μ = some (none, μ) :=
  l_ret (show gPG 142 19 = some (.return_) by decide +kernel) (by decide +kernel)
-- Tape.figure
theorem b143_0 (d : Nat) (μ : jM) (a : Nat) : jR d 143 0 [.ref a] [] μ = (jgR μ 10 5 (.ref a)).bind fun w1 => (jgI μ 10 6 (.ref a)).bind fun x2 => (jaI μ w1 x2).bind fun x3 => some (some (.int x3), μ) :=
  (l_aload_n (show gPG 143 0 = some (.aload_n 0) by decide +kernel) rfl jr_ref).trans <|
  (l_gR (show gPG 143 1 = some (.getfield 21) by decide +kernel) (kd := 10) (sl := 5) (tc := 1) (fin := 1) (z := 0) (by decide +kernel) (by decide +kernel) (by decide +kernel)).trans <| bd_cg fun w1 hw1 =>
  (l_aload_n (show gPG 143 4 = some (.aload_n 0) by decide +kernel) rfl jr_ref).trans <|
  (l_gI (show gPG 143 5 = some (.getfield 28) by decide +kernel) (kd := 10) (sl := 6) (tc := 0) (fin := 0) (z := 0) (by decide +kernel) (by decide +kernel) (by decide +kernel)).trans <| bd_cg fun x2 hx2 =>
  (l_iald (show gPG 143 8 = some (.iaload) by decide +kernel) ).trans <| bd_cg fun x3 hx3 =>
  l_iret1 (show gPG 143 9 = some (.ireturn) by decide +kernel) (by decide +kernel)
-- Tape.clear
theorem b144_0 (d : Nat) (μ : jM) (a : Nat) : jR d 144 0 [.ref a] [] μ = (jpI μ 10 1 0 (.ref a) 0).bind fun m1 => some (none, m1) :=
  (l_aload_n (show gPG 144 0 = some (.aload_n 0) by decide +kernel) rfl jr_ref).trans <|
  (l_iconst (show gPG 144 1 = some (.iconst 0) by decide +kernel) (c := 0) (by decide +kernel)).trans <|
  (l_pI (show gPG 144 2 = some (.putfield 24) by decide +kernel) (kd := 10) (sl := 1) (tc := 0) (fin := 0) (z := 0) (by decide +kernel) (by decide +kernel) (by decide +kernel)).trans <| bd_cg fun m1 hm1 =>
  l_ret (show gPG 144 5 = some (.return_) by decide +kernel) (by decide +kernel)
-- Tape.start
theorem b145_0 (d : Nat) (μ : jM) (a : Nat) : jR d 145 0 [.ref a] [] μ = (jgR μ 10 4 (.ref a)).bind fun w1 => (jgI μ 10 6 (.ref a)).bind fun x2 => (jaI μ w1 x2).bind fun x3 => some (some (.int x3), μ) :=
  (l_aload_n (show gPG 145 0 = some (.aload_n 0) by decide +kernel) rfl jr_ref).trans <|
  (l_gR (show gPG 145 1 = some (.getfield 18) by decide +kernel) (kd := 10) (sl := 4) (tc := 1) (fin := 1) (z := 0) (by decide +kernel) (by decide +kernel) (by decide +kernel)).trans <| bd_cg fun w1 hw1 =>
  (l_aload_n (show gPG 145 4 = some (.aload_n 0) by decide +kernel) rfl jr_ref).trans <|
  (l_gI (show gPG 145 5 = some (.getfield 28) by decide +kernel) (kd := 10) (sl := 6) (tc := 0) (fin := 0) (z := 0) (by decide +kernel) (by decide +kernel) (by decide +kernel)).trans <| bd_cg fun x2 hx2 =>
  (l_iald (show gPG 145 8 = some (.iaload) by decide +kernel) ).trans <| bd_cg fun x3 hx3 =>
  l_iret1 (show gPG 145 9 = some (.ireturn) by decide +kernel) (by decide +kernel)
-- TextReader.init
theorem b146_0 (d : Nat) (μ : jM) (a : Nat) (r1 : Value) (h1 : jisref r1 = true) : jR (d + 1) 146 0 [.ref a, r1] [] μ = (jpR ((jnew μ 20 40 40)) 11 4 (.ref a) ((.ref (jsz μ)))).bind fun m1 => (jpR ((jnew m1 20 40 40)) 11 5 (.ref a) ((.ref (jsz m1)))).bind fun m2 => (jpR ((jnew m2 20 40 40)) 11 6 (.ref a) ((.ref (jsz m2)))).bind fun m3 => (jpR ((jnew m3 20 40 40)) 11 8 (.ref a) ((.ref (jsz m3)))).bind fun m4 => (jpR m4 11 0 (.ref a) r1).bind fun m5 => some (none, m5) :=
  (l_aload_n (show gPG 146 0 = some (.aload_n 0) by decide +kernel) rfl jr_ref).trans <|
  (l_obj (u := 3) (show gPG 146 1 = some (jinvI 3 3) by decide +kernel) (by decide) (q2 := 99) (q3 := 0) (z := 18) (by decide +kernel) (by decide +kernel) cs0 (by decide +kernel)).trans <|
  (l_aload_n (show gPG 146 4 = some (.aload_n 0) by decide +kernel) rfl jr_ref).trans <|
  (l_bipush (show gPG 146 5 = some (.bipush 40) by decide +kernel) (c := 40) (by decide +kernel)).trans <|
  (l_newaK (show gPG 146 7 = some (.newarray .int) by decide +kernel) (kd := 20) (N := 40) rfl (by decide +kernel)).trans <|
  (l_pR (show gPG 146 9 = some (.putfield 9) by decide +kernel) (kd := 11) (sl := 4) (tc := 1) (fin := 1) (z := 0) (by decide +kernel) (by decide +kernel) (by decide +kernel) jr_ref).trans <| bd_cg fun m1 hm1 =>
  (l_aload_n (show gPG 146 12 = some (.aload_n 0) by decide +kernel) rfl jr_ref).trans <|
  (l_bipush (show gPG 146 13 = some (.bipush 40) by decide +kernel) (c := 40) (by decide +kernel)).trans <|
  (l_newaK (show gPG 146 15 = some (.newarray .int) by decide +kernel) (kd := 20) (N := 40) rfl (by decide +kernel)).trans <|
  (l_pR (show gPG 146 17 = some (.putfield 15) by decide +kernel) (kd := 11) (sl := 5) (tc := 1) (fin := 1) (z := 0) (by decide +kernel) (by decide +kernel) (by decide +kernel) jr_ref).trans <| bd_cg fun m2 hm2 =>
  (l_aload_n (show gPG 146 20 = some (.aload_n 0) by decide +kernel) rfl jr_ref).trans <|
  (l_bipush (show gPG 146 21 = some (.bipush 40) by decide +kernel) (c := 40) (by decide +kernel)).trans <|
  (l_newaK (show gPG 146 23 = some (.newarray .int) by decide +kernel) (kd := 20) (N := 40) rfl (by decide +kernel)).trans <|
  (l_pR (show gPG 146 25 = some (.putfield 18) by decide +kernel) (kd := 11) (sl := 6) (tc := 1) (fin := 1) (z := 0) (by decide +kernel) (by decide +kernel) (by decide +kernel) jr_ref).trans <| bd_cg fun m3 hm3 =>
  (l_aload_n (show gPG 146 28 = some (.aload_n 0) by decide +kernel) rfl jr_ref).trans <|
  (l_bipush (show gPG 146 29 = some (.bipush 40) by decide +kernel) (c := 40) (by decide +kernel)).trans <|
  (l_newaK (show gPG 146 31 = some (.newarray .int) by decide +kernel) (kd := 20) (N := 40) rfl (by decide +kernel)).trans <|
  (l_pR (show gPG 146 33 = some (.putfield 21) by decide +kernel) (kd := 11) (sl := 8) (tc := 1) (fin := 1) (z := 0) (by decide +kernel) (by decide +kernel) (by decide +kernel) jr_ref).trans <| bd_cg fun m4 hm4 =>
  (l_aload_n (show gPG 146 36 = some (.aload_n 0) by decide +kernel) rfl jr_ref).trans <|
  (l_aload_n (show gPG 146 37 = some (.aload_n 1) by decide +kernel) rfl h1).trans <|
  (l_pR (show gPG 146 38 = some (.putfield 24) by decide +kernel) (kd := 11) (sl := 0) (tc := 1) (fin := 1) (z := 0) (by decide +kernel) (by decide +kernel) (by decide +kernel) h1).trans <| bd_cg fun m5 hm5 =>
  l_ret (show gPG 146 41 = some (.return_) by decide +kernel) (by decide +kernel)
-- TextReader.read
theorem b147_0 (d : Nat) (μ : jM) (a : Nat) (r1 : Value) (h1 : jisref r1 = true) : jR (d + 1) 147 0 [.ref a, r1] [] μ = (jpR μ 11 1 (.ref a) r1).bind fun m1 => (jpI m1 11 3 0 (.ref a) 0).bind fun m2 => (jpI m2 11 7 0 (.ref a) 0).bind fun m3 => (jpI m3 11 9 0 (.ref a) 0).bind fun m4 => (jgR m4 11 0 (.ref a)).bind fun w5 => (if jrecv m4 10 w5 = true then (jC d 132 [w5] m4).bind fun p6 => jR (d + 1) 147 27 [.ref a, r1] (p6.1.toList ++ []) p6.2 else none) :=
  (l_aload_n (show gPG 147 0 = some (.aload_n 0) by decide +kernel) rfl jr_ref).trans <|
  (l_aload_n (show gPG 147 1 = some (.aload_n 1) by decide +kernel) rfl h1).trans <|
  (l_pR (show gPG 147 2 = some (.putfield 28) by decide +kernel) (kd := 11) (sl := 1) (tc := 1) (fin := 0) (z := 0) (by decide +kernel) (by decide +kernel) (by decide +kernel) h1).trans <| bd_cg fun m1 hm1 =>
  (l_aload_n (show gPG 147 5 = some (.aload_n 0) by decide +kernel) rfl jr_ref).trans <|
  (l_iconst (show gPG 147 6 = some (.iconst 0) by decide +kernel) (c := 0) (by decide +kernel)).trans <|
  (l_pI (show gPG 147 7 = some (.putfield 32) by decide +kernel) (kd := 11) (sl := 3) (tc := 0) (fin := 0) (z := 0) (by decide +kernel) (by decide +kernel) (by decide +kernel)).trans <| bd_cg fun m2 hm2 =>
  (l_aload_n (show gPG 147 10 = some (.aload_n 0) by decide +kernel) rfl jr_ref).trans <|
  (l_iconst (show gPG 147 11 = some (.iconst 0) by decide +kernel) (c := 0) (by decide +kernel)).trans <|
  (l_pI (show gPG 147 12 = some (.putfield 36) by decide +kernel) (kd := 11) (sl := 7) (tc := 0) (fin := 0) (z := 0) (by decide +kernel) (by decide +kernel) (by decide +kernel)).trans <| bd_cg fun m3 hm3 =>
  (l_aload_n (show gPG 147 15 = some (.aload_n 0) by decide +kernel) rfl jr_ref).trans <|
  (l_iconst (show gPG 147 16 = some (.iconst 0) by decide +kernel) (c := 0) (by decide +kernel)).trans <|
  (l_pI (show gPG 147 17 = some (.putfield 39) by decide +kernel) (kd := 11) (sl := 9) (tc := 0) (fin := 0) (z := 0) (by decide +kernel) (by decide +kernel) (by decide +kernel)).trans <| bd_cg fun m4 hm4 =>
  (l_aload_n (show gPG 147 20 = some (.aload_n 0) by decide +kernel) rfl jr_ref).trans <|
  (l_gR (show gPG 147 21 = some (.getfield 24) by decide +kernel) (kd := 11) (sl := 0) (tc := 1) (fin := 1) (z := 0) (by decide +kernel) (by decide +kernel) (by decide +kernel)).trans <| bd_cg fun w5 hw5 =>
  l_callV (u := 1) (v := w5) (as := []) (show gPG 147 24 = some (jinvI 1 42) by decide +kernel) (by decide) (cc := 132) (na := 1) (kd := 10) (q4 := 0) (z := 11) (rest := []) (by decide +kernel) (by decide +kernel)  rfl (show (1 : Nat) ≤ 1 by decide) rfl cs0 (by decide +kernel) (cav (jr_gR hw5) ca0)
theorem b147_27 (d : Nat) (μ : jM) (a : Nat) (u1 : Value) : jR (d + 1) 147 27 [.ref a, u1] [] μ = (jgR μ 11 0 (.ref a)).bind fun w1 => (if jrecv μ 10 w1 = true then (jC d 141 [w1] μ).bind fun p2 => jR (d + 1) 147 34 [.ref a, u1] (p2.1.toList ++ []) p2.2 else none) :=
  (l_aload_n (show gPG 147 27 = some (.aload_n 0) by decide +kernel) rfl jr_ref).trans <|
  (l_gR (show gPG 147 28 = some (.getfield 24) by decide +kernel) (kd := 11) (sl := 0) (tc := 1) (fin := 1) (z := 0) (by decide +kernel) (by decide +kernel) (by decide +kernel)).trans <| bd_cg fun w1 hw1 =>
  l_callV (u := 1) (v := w1) (as := []) (show gPG 147 31 = some (jinvI 1 47) by decide +kernel) (by decide) (cc := 141) (na := 1) (kd := 10) (q4 := 0) (z := 11) (rest := []) (by decide +kernel) (by decide +kernel)  rfl (show (1 : Nat) ≤ 1 by decide) rfl cs0 (by decide +kernel) (cav (jr_gR hw1) ca0)
theorem b147_34 (d : Nat) (μ : jM) (a : Nat) (u1 : Value) (s0 : Int32) : jR (d + 1) 147 34 [.ref a, u1] [.int s0] μ = (if s0 = 0 then (jpI μ 11 2 0 (.ref a) 0).bind fun m3 => some (some (.int 1), m3) else (jgR μ 11 0 (.ref a)).bind fun w1 => (if jrecv μ 10 w1 = true then (jC d 141 [w1] μ).bind fun p2 => jR (d + 1) 147 51 [.ref a, u1] (p2.1.toList ++ []) p2.2 else none)) :=
  (l_cmp0 (show gPG 147 34 = some (.ifCond .ne 10) by decide +kernel) (t := 44) (by decide +kernel)).trans <| jm_ne.trans <| ite_cg (
  (l_aload_n (show gPG 147 37 = some (.aload_n 0) by decide +kernel) rfl jr_ref).trans <|
  (l_iconst (show gPG 147 38 = some (.iconst 0) by decide +kernel) (c := 0) (by decide +kernel)).trans <|
  (l_pI (show gPG 147 39 = some (.putfield 51) by decide +kernel) (kd := 11) (sl := 2) (tc := 0) (fin := 0) (z := 0) (by decide +kernel) (by decide +kernel) (by decide +kernel)).trans <| bd_cg fun m3 hm3 =>
  (l_iconst (show gPG 147 42 = some (.iconst 1) by decide +kernel) (c := 1) (by decide +kernel)).trans <|
  l_iretK (show gPG 147 43 = some (.ireturn) by decide +kernel) (by decide +kernel)) (
  (l_aload_n (show gPG 147 44 = some (.aload_n 0) by decide +kernel) rfl jr_ref).trans <|
  (l_gR (show gPG 147 45 = some (.getfield 24) by decide +kernel) (kd := 11) (sl := 0) (tc := 1) (fin := 1) (z := 0) (by decide +kernel) (by decide +kernel) (by decide +kernel)).trans <| bd_cg fun w1 hw1 =>
  l_callV (u := 1) (v := w1) (as := []) (show gPG 147 48 = some (jinvI 1 47) by decide +kernel) (by decide) (cc := 141) (na := 1) (kd := 10) (q4 := 0) (z := 11) (rest := []) (by decide +kernel) (by decide +kernel)  rfl (show (1 : Nat) ≤ 1 by decide) rfl cs0 (by decide +kernel) (cav (jr_gR hw1) ca0))
theorem b147_51 (d : Nat) (μ : jM) (a : Nat) (u1 : Value) (s0 : Int32) : jR (d + 1) 147 51 [.ref a, u1] [.int s0] μ = (if s0 = 61 then (jpI μ 11 2 0 (.ref a) 2).bind fun m3 => (jgR m3 11 0 (.ref a)).bind fun w4 => (if jrecv m3 10 w4 = true then (jC d 142 [w4] m3).bind fun p5 => jR (d + 1) 147 68 [.ref a, u1] (p5.1.toList ++ []) p5.2 else none) else (jpI μ 11 2 0 (.ref a) 1).bind fun m1 => (if jrecv m1 11 (.ref a) = true then (jC d 158 [.ref a] m1).bind fun p2 => jR (d + 1) 147 101 [.ref a, u1] (p2.1.toList ++ []) p2.2 else none)) :=
  (l_bipush (show gPG 147 51 = some (.bipush 61) by decide +kernel) (c := 61) (by decide +kernel)).trans <|
  (l_cmp (show gPG 147 53 = some (.if_icmp .ne 39) by decide +kernel) (t := 92) (by decide +kernel)).trans <| jm_ne.trans <| ite_cg (
  (l_aload_n (show gPG 147 56 = some (.aload_n 0) by decide +kernel) rfl jr_ref).trans <|
  (l_iconst (show gPG 147 57 = some (.iconst 2) by decide +kernel) (c := 2) (by decide +kernel)).trans <|
  (l_pI (show gPG 147 58 = some (.putfield 51) by decide +kernel) (kd := 11) (sl := 2) (tc := 0) (fin := 0) (z := 0) (by decide +kernel) (by decide +kernel) (by decide +kernel)).trans <| bd_cg fun m3 hm3 =>
  (l_aload_n (show gPG 147 61 = some (.aload_n 0) by decide +kernel) rfl jr_ref).trans <|
  (l_gR (show gPG 147 62 = some (.getfield 24) by decide +kernel) (kd := 11) (sl := 0) (tc := 1) (fin := 1) (z := 0) (by decide +kernel) (by decide +kernel) (by decide +kernel)).trans <| bd_cg fun w4 hw4 =>
  l_callV (u := 1) (v := w4) (as := []) (show gPG 147 65 = some (jinvI 1 54) by decide +kernel) (by decide) (cc := 142) (na := 1) (kd := 10) (q4 := 0) (z := 11) (rest := []) (by decide +kernel) (by decide +kernel)  rfl (show (1 : Nat) ≤ 1 by decide) rfl cs0 (by decide +kernel) (cav (jr_gR hw4) ca0)) (
  (l_aload_n (show gPG 147 92 = some (.aload_n 0) by decide +kernel) rfl jr_ref).trans <|
  (l_iconst (show gPG 147 93 = some (.iconst 1) by decide +kernel) (c := 1) (by decide +kernel)).trans <|
  (l_pI (show gPG 147 94 = some (.putfield 51) by decide +kernel) (kd := 11) (sl := 2) (tc := 0) (fin := 0) (z := 0) (by decide +kernel) (by decide +kernel) (by decide +kernel)).trans <| bd_cg fun m1 hm1 =>
  (l_aload_n (show gPG 147 97 = some (.aload_n 0) by decide +kernel) rfl jr_ref).trans <|
  l_callV (u := 1) (v := .ref a) (as := []) (show gPG 147 98 = some (jinvI 1 61) by decide +kernel) (by decide) (cc := 158) (na := 1) (kd := 11) (q4 := 0) (z := 10) (rest := []) (by decide +kernel) (by decide +kernel)  rfl (show (1 : Nat) ≤ 1 by decide) rfl cs0 (by decide +kernel) (cav jr_ref ca0))
theorem b147_68 (d : Nat) (μ : jM) (a : Nat) (u1 : Value) : jR (d + 1) 147 68 [.ref a, u1] [] μ = (if jrecv μ 11 (.ref a) = true then (jC d 148 [.ref a, .int 0] μ).bind fun p1 => jR (d + 1) 147 73 [.ref a, u1] (p1.1.toList ++ []) p1.2 else none) :=
  (l_aload_n (show gPG 147 68 = some (.aload_n 0) by decide +kernel) rfl jr_ref).trans <|
  (l_iconst (show gPG 147 69 = some (.iconst 0) by decide +kernel) (c := 0) (by decide +kernel)).trans <|
  l_callV (u := 1) (v := .ref a) (as := [.int 0]) (show gPG 147 70 = some (jinvI 1 57) by decide +kernel) (by decide) (cc := 148) (na := 2) (kd := 11) (q4 := 0) (z := 10) (rest := []) (by decide +kernel) (by decide +kernel)  rfl (show (2 : Nat) ≤ 2 by decide) rfl cs0 (by decide +kernel) (cai (cav jr_ref ca0))
theorem b147_73 (d : Nat) (μ : jM) (a : Nat) (u1 : Value) (s0 : Int32) : jR (d + 1) 147 73 [.ref a, u1] [.int s0] μ = (if s0 = 0 then jR (d + 1) 147 90 [.ref a, u1] [] μ else (jgR μ 11 0 (.ref a)).bind fun w1 => (if jrecv μ 10 w1 = true then (jC d 141 [w1] μ).bind fun p2 => jR (d + 1) 147 83 [.ref a, u1] (p2.1.toList ++ []) p2.2 else none)) :=
  (l_cmp0 (show gPG 147 73 = some (.ifCond .eq 17) by decide +kernel) (t := 90) (by decide +kernel)).trans <| jm_eq.trans <| ite_cg (
  rfl) (
  (l_aload_n (show gPG 147 76 = some (.aload_n 0) by decide +kernel) rfl jr_ref).trans <|
  (l_gR (show gPG 147 77 = some (.getfield 24) by decide +kernel) (kd := 11) (sl := 0) (tc := 1) (fin := 1) (z := 0) (by decide +kernel) (by decide +kernel) (by decide +kernel)).trans <| bd_cg fun w1 hw1 =>
  l_callV (u := 1) (v := w1) (as := []) (show gPG 147 80 = some (jinvI 1 47) by decide +kernel) (by decide) (cc := 141) (na := 1) (kd := 10) (q4 := 0) (z := 11) (rest := []) (by decide +kernel) (by decide +kernel)  rfl (show (1 : Nat) ≤ 1 by decide) rfl cs0 (by decide +kernel) (cav (jr_gR hw1) ca0))
theorem b147_83 (d : Nat) (μ : jM) (u0 : Value) (u1 : Value) (s0 : Int32) : jR d 147 83 [u0, u1] [.int s0] μ = (if s0 = 0 then jR d 147 91 [u0, u1] [.int 1] μ else jR d 147 90 [u0, u1] [] μ) :=
  (l_cmp0 (show gPG 147 83 = some (.ifCond .ne 7) by decide +kernel) (t := 90) (by decide +kernel)).trans <| jm_ne.trans <| ite_cg (
  (l_iconst (show gPG 147 86 = some (.iconst 1) by decide +kernel) (c := 1) (by decide +kernel)).trans <|
  l_goto (show gPG 147 87 = some (.goto 4) by decide +kernel) (t := 91) (by decide +kernel)) (
  rfl)
theorem b147_90 (d : Nat) (μ : jM) (u0 : Value) (u1 : Value) : jR d 147 90 [u0, u1] [] μ = jR d 147 91 [u0, u1] [.int 0] μ :=
  l_iconst (show gPG 147 90 = some (.iconst 0) by decide +kernel) (c := 0) (by decide +kernel)
theorem b147_91 (d : Nat) (μ : jM) (u0 : Value) (u1 : Value) (s0 : Int32) : jR d 147 91 [u0, u1] [.int s0] μ = (if jrf 4 s0 = true then some (some (.int s0), μ) else none) :=
  l_iret (show gPG 147 91 = some (.ireturn) by decide +kernel) (rc := 4) (by decide +kernel)
theorem b147_101 (d : Nat) (μ : jM) (a : Nat) (u1 : Value) (s0 : Int32) : jR (d + 1) 147 101 [.ref a, u1] [.int s0] μ = (if s0 = 0 then jR (d + 1) 147 118 [.ref a, u1] [] μ else (jgR μ 11 0 (.ref a)).bind fun w1 => (if jrecv μ 10 w1 = true then (jC d 141 [w1] μ).bind fun p2 => jR (d + 1) 147 111 [.ref a, u1] (p2.1.toList ++ []) p2.2 else none)) :=
  (l_cmp0 (show gPG 147 101 = some (.ifCond .eq 17) by decide +kernel) (t := 118) (by decide +kernel)).trans <| jm_eq.trans <| ite_cg (
  rfl) (
  (l_aload_n (show gPG 147 104 = some (.aload_n 0) by decide +kernel) rfl jr_ref).trans <|
  (l_gR (show gPG 147 105 = some (.getfield 24) by decide +kernel) (kd := 11) (sl := 0) (tc := 1) (fin := 1) (z := 0) (by decide +kernel) (by decide +kernel) (by decide +kernel)).trans <| bd_cg fun w1 hw1 =>
  l_callV (u := 1) (v := w1) (as := []) (show gPG 147 108 = some (jinvI 1 47) by decide +kernel) (by decide) (cc := 141) (na := 1) (kd := 10) (q4 := 0) (z := 11) (rest := []) (by decide +kernel) (by decide +kernel)  rfl (show (1 : Nat) ≤ 1 by decide) rfl cs0 (by decide +kernel) (cav (jr_gR hw1) ca0))
theorem b147_111 (d : Nat) (μ : jM) (u0 : Value) (u1 : Value) (s0 : Int32) : jR d 147 111 [u0, u1] [.int s0] μ = (if s0 = 0 then jR d 147 119 [u0, u1] [.int 1] μ else jR d 147 118 [u0, u1] [] μ) :=
  (l_cmp0 (show gPG 147 111 = some (.ifCond .ne 7) by decide +kernel) (t := 118) (by decide +kernel)).trans <| jm_ne.trans <| ite_cg (
  (l_iconst (show gPG 147 114 = some (.iconst 1) by decide +kernel) (c := 1) (by decide +kernel)).trans <|
  l_goto (show gPG 147 115 = some (.goto 4) by decide +kernel) (t := 119) (by decide +kernel)) (
  rfl)
theorem b147_118 (d : Nat) (μ : jM) (u0 : Value) (u1 : Value) : jR d 147 118 [u0, u1] [] μ = jR d 147 119 [u0, u1] [.int 0] μ :=
  l_iconst (show gPG 147 118 = some (.iconst 0) by decide +kernel) (c := 0) (by decide +kernel)
theorem b147_119 (d : Nat) (μ : jM) (u0 : Value) (u1 : Value) (s0 : Int32) : jR d 147 119 [u0, u1] [.int s0] μ = (if jrf 4 s0 = true then some (some (.int s0), μ) else none) :=
  l_iret (show gPG 147 119 = some (.ireturn) by decide +kernel) (rc := 4) (by decide +kernel)
-- TextReader.readSum
theorem b148_0 (d : Nat) (μ : jM) (a : Nat) (i1 : Int32) : jR (d + 1) 148 0 [.ref a, .int i1, .retAddr 0, .retAddr 0] [] μ = (if jrecv μ 11 (.ref a) = true then (jC d 149 [.ref a, .int i1] μ).bind fun p1 => jR (d + 1) 148 5 [.ref a, .int i1, .retAddr 0, .retAddr 0] (p1.1.toList ++ []) p1.2 else none) :=
  (l_aload_n (show gPG 148 0 = some (.aload_n 0) by decide +kernel) rfl jr_ref).trans <|
  (l_iload_n (show gPG 148 1 = some (.iload_n 1) by decide +kernel) rfl).trans <|
  l_callV (u := 1) (v := .ref a) (as := [.int i1]) (show gPG 148 2 = some (jinvI 1 79) by decide +kernel) (by decide) (cc := 149) (na := 2) (kd := 11) (q4 := 0) (z := 10) (rest := []) (by decide +kernel) (by decide +kernel)  rfl (show (2 : Nat) ≤ 2 by decide) rfl cs0 (by decide +kernel) (cai (cav jr_ref ca0))
theorem b148_5 (d : Nat) (μ : jM) (a : Nat) (i1 : Int32) (u2 : Value) (u3 : Value) (s0 : Int32) : jR d 148 5 [.ref a, .int i1, u2, u3] [.int s0] μ = (if s0 = 0 then some (some (.int 0), μ) else jR d 148 12 [.ref a, .int i1, .int 0, u3] [] μ) :=
  (l_cmp0 (show gPG 148 5 = some (.ifCond .ne 5) by decide +kernel) (t := 10) (by decide +kernel)).trans <| jm_ne.trans <| ite_cg (
  (l_iconst (show gPG 148 8 = some (.iconst 0) by decide +kernel) (c := 0) (by decide +kernel)).trans <|
  l_iretK (show gPG 148 9 = some (.ireturn) by decide +kernel) (by decide +kernel)) (
  (l_iconst (show gPG 148 10 = some (.iconst 0) by decide +kernel) (c := 0) (by decide +kernel)).trans <|
  l_istore_n (show gPG 148 11 = some (.istore_n 2) by decide +kernel) (ls := [.ref a, .int i1, u2, u3]) (show (2 : Nat) < 4 by decide) (show _ = ([.ref a, .int i1, .int 0, u3] : List Value) from rfl))
theorem b148_12 (d : Nat) (μ : jM) (a : Nat) (i1 : Int32) (i2 : Int32) (u3 : Value) : jR (d + 1) 148 12 [.ref a, .int i1, .int i2, u3] [] μ = (if i2 < 40 then (jgR μ 11 0 (.ref a)).bind fun w1 => (if jrecv μ 10 w1 = true then (jC d 141 [w1] μ).bind fun p2 => jR (d + 1) 148 25 [.ref a, .int i1, .int i2, u3] (p2.1.toList ++ []) p2.2 else none) else jR (d + 1) 148 77 [.ref a, .int i1, .int i2, u3] [] μ) :=
  (l_iload_n (show gPG 148 12 = some (.iload_n 2) by decide +kernel) rfl).trans <|
  (l_bipush (show gPG 148 13 = some (.bipush 40) by decide +kernel) (c := 40) (by decide +kernel)).trans <|
  (l_cmp (show gPG 148 15 = some (.if_icmp .ge 62) by decide +kernel) (t := 77) (by decide +kernel)).trans <| jm_ge.trans <| ite_cg (
  (l_aload_n (show gPG 148 18 = some (.aload_n 0) by decide +kernel) rfl jr_ref).trans <|
  (l_gR (show gPG 148 19 = some (.getfield 24) by decide +kernel) (kd := 11) (sl := 0) (tc := 1) (fin := 1) (z := 0) (by decide +kernel) (by decide +kernel) (by decide +kernel)).trans <| bd_cg fun w1 hw1 =>
  l_callV (u := 1) (v := w1) (as := []) (show gPG 148 22 = some (jinvI 1 47) by decide +kernel) (by decide) (cc := 141) (na := 1) (kd := 10) (q4 := 0) (z := 11) (rest := []) (by decide +kernel) (by decide +kernel)  rfl (show (1 : Nat) ≤ 1 by decide) rfl cs0 (by decide +kernel) (cav (jr_gR hw1) ca0)) (
  rfl)
theorem b148_25 (d : Nat) (μ : jM) (a : Nat) (i1 : Int32) (i2 : Int32) (u3 : Value) (s0 : Int32) : jR (d + 1) 148 25 [.ref a, .int i1, .int i2, u3] [.int s0] μ = (if s0 = 43 then jR (d + 1) 148 42 [.ref a, .int i1, .int i2, u3] [] μ else (jgR μ 11 0 (.ref a)).bind fun w1 => (if jrecv μ 10 w1 = true then (jC d 141 [w1] μ).bind fun p2 => jR (d + 1) 148 37 [.ref a, .int i1, .int i2, u3] (p2.1.toList ++ []) p2.2 else none)) :=
  (l_bipush (show gPG 148 25 = some (.bipush 43) by decide +kernel) (c := 43) (by decide +kernel)).trans <|
  (l_cmp (show gPG 148 27 = some (.if_icmp .eq 15) by decide +kernel) (t := 42) (by decide +kernel)).trans <| jm_eq.trans <| ite_cg (
  rfl) (
  (l_aload_n (show gPG 148 30 = some (.aload_n 0) by decide +kernel) rfl jr_ref).trans <|
  (l_gR (show gPG 148 31 = some (.getfield 24) by decide +kernel) (kd := 11) (sl := 0) (tc := 1) (fin := 1) (z := 0) (by decide +kernel) (by decide +kernel) (by decide +kernel)).trans <| bd_cg fun w1 hw1 =>
  l_callV (u := 1) (v := w1) (as := []) (show gPG 148 34 = some (jinvI 1 47) by decide +kernel) (by decide) (cc := 141) (na := 1) (kd := 10) (q4 := 0) (z := 11) (rest := []) (by decide +kernel) (by decide +kernel)  rfl (show (1 : Nat) ≤ 1 by decide) rfl cs0 (by decide +kernel) (cav (jr_gR hw1) ca0))
theorem b148_37 (d : Nat) (μ : jM) (a : Nat) (i1 : Int32) (i2 : Int32) (u3 : Value) (s0 : Int32) : jR d 148 37 [.ref a, .int i1, .int i2, u3] [.int s0] μ = (if s0 = 45 then jR d 148 42 [.ref a, .int i1, .int i2, u3] [] μ else jR d 148 77 [.ref a, .int i1, .int i2, u3] [] μ) :=
  (l_bipush (show gPG 148 37 = some (.bipush 45) by decide +kernel) (c := 45) (by decide +kernel)).trans <|
  (l_cmp (show gPG 148 39 = some (.if_icmp .ne 38) by decide +kernel) (t := 77) (by decide +kernel)).trans <| jm_ne.trans <| ite_cg (
  rfl) (
  rfl)
theorem b148_42 (d : Nat) (μ : jM) (a : Nat) (i1 : Int32) (i2 : Int32) (u3 : Value) : jR (d + 1) 148 42 [.ref a, .int i1, .int i2, u3] [] μ = (jgR μ 11 0 (.ref a)).bind fun w1 => (if jrecv μ 10 w1 = true then (jC d 141 [w1] μ).bind fun p2 => jR (d + 1) 148 50 [.ref a, .int i1, .int i2, u3] (p2.1.toList ++ [.ref a]) p2.2 else none) :=
  (l_aload_n (show gPG 148 42 = some (.aload_n 0) by decide +kernel) rfl jr_ref).trans <|
  (l_aload_n (show gPG 148 43 = some (.aload_n 0) by decide +kernel) rfl jr_ref).trans <|
  (l_gR (show gPG 148 44 = some (.getfield 24) by decide +kernel) (kd := 11) (sl := 0) (tc := 1) (fin := 1) (z := 0) (by decide +kernel) (by decide +kernel) (by decide +kernel)).trans <| bd_cg fun w1 hw1 =>
  l_callV (u := 1) (v := w1) (as := []) (show gPG 148 47 = some (jinvI 1 47) by decide +kernel) (by decide) (cc := 141) (na := 1) (kd := 10) (q4 := 0) (z := 11) (rest := [.ref a]) (by decide +kernel) (by decide +kernel)  rfl (show (1 : Nat) ≤ 2 by decide) rfl (csv jr_ref cs0) (by decide +kernel) (cav (jr_gR hw1) ca0)
theorem b148_50 (d : Nat) (μ : jM) (a : Nat) (i1 : Int32) (i2 : Int32) (u3 : Value) (s0 : Value) (s1 : Int32) (hs0 : jisref s0 = true) : jR (d + 1) 148 50 [.ref a, .int i1, .int i2, u3] [.int s1, s0] μ = (if jrecv μ 11 s0 = true then (jC d 151 [s0, .int s1, .int 0, .int 0] μ).bind fun p1 => jR (d + 1) 148 55 [.ref a, .int i1, .int i2, u3] (p1.1.toList ++ []) p1.2 else none) :=
  (l_iconst (show gPG 148 50 = some (.iconst 0) by decide +kernel) (c := 0) (by decide +kernel)).trans <|
  (l_iconst (show gPG 148 51 = some (.iconst 0) by decide +kernel) (c := 0) (by decide +kernel)).trans <|
  l_callV (u := 1) (v := s0) (as := [.int s1, .int 0, .int 0]) (show gPG 148 52 = some (jinvI 1 82) by decide +kernel) (by decide) (cc := 151) (na := 4) (kd := 11) (q4 := 0) (z := 10) (rest := []) (by decide +kernel) (by decide +kernel)  rfl (show (4 : Nat) ≤ 4 by decide) rfl cs0 (by decide +kernel) (cai (cai (cai (cav hs0 ca0))))
theorem b148_55 (d : Nat) (μ : jM) (a : Nat) (i1 : Int32) (i2 : Int32) (u3 : Value) (s0 : Int32) : jR (d + 1) 148 55 [.ref a, .int i1, .int i2, u3] [.int s0] μ = (if jrecv μ 11 (.ref a) = true then (jC d 149 [.ref a, .int i1] μ).bind fun p1 => jR (d + 1) 148 61 [.ref a, .int i1, .int i2, .int s0] (p1.1.toList ++ []) p1.2 else none) :=
  (l_istore_n (show gPG 148 55 = some (.istore_n 3) by decide +kernel) (ls := [.ref a, .int i1, .int i2, u3]) (show (3 : Nat) < 4 by decide) (show _ = ([.ref a, .int i1, .int i2, .int s0] : List Value) from rfl)).trans <|
  (l_aload_n (show gPG 148 56 = some (.aload_n 0) by decide +kernel) rfl jr_ref).trans <|
  (l_iload_n (show gPG 148 57 = some (.iload_n 1) by decide +kernel) rfl).trans <|
  l_callV (u := 1) (v := .ref a) (as := [.int i1]) (show gPG 148 58 = some (jinvI 1 79) by decide +kernel) (by decide) (cc := 149) (na := 2) (kd := 11) (q4 := 0) (z := 10) (rest := []) (by decide +kernel) (by decide +kernel)  rfl (show (2 : Nat) ≤ 2 by decide) rfl cs0 (by decide +kernel) (cai (cav jr_ref ca0))
theorem b148_61 (d : Nat) (μ : jM) (a : Nat) (i1 : Int32) (i2 : Int32) (i3 : Int32) (s0 : Int32) : jR (d + 1) 148 61 [.ref a, .int i1, .int i2, .int i3] [.int s0] μ = (if s0 = 0 then some (some (.int 0), μ) else (if jrecv μ 11 (.ref a) = true then (jC d 152 [.ref a, .int i3] μ).bind fun p1 => jR (d + 1) 148 71 [.ref a, .int i1, .int i2, .int i3] (p1.1.toList ++ []) p1.2 else none)) :=
  (l_cmp0 (show gPG 148 61 = some (.ifCond .ne 5) by decide +kernel) (t := 66) (by decide +kernel)).trans <| jm_ne.trans <| ite_cg (
  (l_iconst (show gPG 148 64 = some (.iconst 0) by decide +kernel) (c := 0) (by decide +kernel)).trans <|
  l_iretK (show gPG 148 65 = some (.ireturn) by decide +kernel) (by decide +kernel)) (
  (l_aload_n (show gPG 148 66 = some (.aload_n 0) by decide +kernel) rfl jr_ref).trans <|
  (l_iload_n (show gPG 148 67 = some (.iload_n 3) by decide +kernel) rfl).trans <|
  l_callV (u := 1) (v := .ref a) (as := [.int i3]) (show gPG 148 68 = some (jinvI 1 86) by decide +kernel) (by decide) (cc := 152) (na := 2) (kd := 11) (q4 := 0) (z := 10) (rest := []) (by decide +kernel) (by decide +kernel)  rfl (show (2 : Nat) ≤ 2 by decide) rfl cs0 (by decide +kernel) (cai (cav jr_ref ca0)))
theorem b148_71 (d : Nat) (μ : jM) (a : Nat) (i1 : Int32) (i2 : Int32) (u3 : Value) : jR d 148 71 [.ref a, .int i1, .int i2, u3] [] μ = jR d 148 12 [.ref a, .int i1, .int (i2 + 1), u3] [] μ :=
  (l_iinc (show gPG 148 71 = some (.iinc 2 1) by decide +kernel) (c := 1) (by decide +kernel) rfl (show _ = ([.ref a, .int i1, .int (i2 + 1), u3] : List Value) from rfl)).trans <|
  l_goto (show gPG 148 74 = some (.goto (-62)) by decide +kernel) (t := 12) (by decide +kernel)
theorem b148_77 (d : Nat) (μ : jM) (u0 : Value) (u1 : Value) (u2 : Value) (u3 : Value) : jR d 148 77 [u0, u1, u2, u3] [] μ = some (some (.int 1), μ) :=
  (l_iconst (show gPG 148 77 = some (.iconst 1) by decide +kernel) (c := 1) (by decide +kernel)).trans <|
  l_iretK (show gPG 148 78 = some (.ireturn) by decide +kernel) (by decide +kernel)
-- TextReader.readPart
theorem b149_0 (d : Nat) (μ : jM) (a : Nat) (i1 : Int32) : jR (d + 1) 149 0 [.ref a, .int i1, .retAddr 0, .retAddr 0] [] μ = (if jrecv μ 11 (.ref a) = true then (jC d 150 [.ref a, .int i1] μ).bind fun p1 => jR (d + 1) 149 5 [.ref a, .int i1, .retAddr 0, .retAddr 0] (p1.1.toList ++ []) p1.2 else none) :=
  (l_aload_n (show gPG 149 0 = some (.aload_n 0) by decide +kernel) rfl jr_ref).trans <|
  (l_iload_n (show gPG 149 1 = some (.iload_n 1) by decide +kernel) rfl).trans <|
  l_callV (u := 1) (v := .ref a) (as := [.int i1]) (show gPG 149 2 = some (jinvI 1 90) by decide +kernel) (by decide) (cc := 150) (na := 2) (kd := 11) (q4 := 0) (z := 10) (rest := []) (by decide +kernel) (by decide +kernel)  rfl (show (2 : Nat) ≤ 2 by decide) rfl cs0 (by decide +kernel) (cai (cav jr_ref ca0))
theorem b149_5 (d : Nat) (μ : jM) (a : Nat) (i1 : Int32) (u2 : Value) (u3 : Value) (s0 : Int32) : jR d 149 5 [.ref a, .int i1, u2, u3] [.int s0] μ = (if s0 = 0 then some (some (.int 0), μ) else jR d 149 12 [.ref a, .int i1, .int 0, u3] [] μ) :=
  (l_cmp0 (show gPG 149 5 = some (.ifCond .ne 5) by decide +kernel) (t := 10) (by decide +kernel)).trans <| jm_ne.trans <| ite_cg (
  (l_iconst (show gPG 149 8 = some (.iconst 0) by decide +kernel) (c := 0) (by decide +kernel)).trans <|
  l_iretK (show gPG 149 9 = some (.ireturn) by decide +kernel) (by decide +kernel)) (
  (l_iconst (show gPG 149 10 = some (.iconst 0) by decide +kernel) (c := 0) (by decide +kernel)).trans <|
  l_istore_n (show gPG 149 11 = some (.istore_n 2) by decide +kernel) (ls := [.ref a, .int i1, u2, u3]) (show (2 : Nat) < 4 by decide) (show _ = ([.ref a, .int i1, .int 0, u3] : List Value) from rfl))
theorem b149_12 (d : Nat) (μ : jM) (a : Nat) (i1 : Int32) (i2 : Int32) (u3 : Value) : jR (d + 1) 149 12 [.ref a, .int i1, .int i2, u3] [] μ = (if i2 < 40 then (jgR μ 11 0 (.ref a)).bind fun w1 => (if jrecv μ 10 w1 = true then (jC d 141 [w1] μ).bind fun p2 => jR (d + 1) 149 25 [.ref a, .int i1, .int i2, u3] (p2.1.toList ++ []) p2.2 else none) else jR (d + 1) 149 60 [.ref a, .int i1, .int i2, u3] [] μ) :=
  (l_iload_n (show gPG 149 12 = some (.iload_n 2) by decide +kernel) rfl).trans <|
  (l_bipush (show gPG 149 13 = some (.bipush 40) by decide +kernel) (c := 40) (by decide +kernel)).trans <|
  (l_cmp (show gPG 149 15 = some (.if_icmp .ge 45) by decide +kernel) (t := 60) (by decide +kernel)).trans <| jm_ge.trans <| ite_cg (
  (l_aload_n (show gPG 149 18 = some (.aload_n 0) by decide +kernel) rfl jr_ref).trans <|
  (l_gR (show gPG 149 19 = some (.getfield 24) by decide +kernel) (kd := 11) (sl := 0) (tc := 1) (fin := 1) (z := 0) (by decide +kernel) (by decide +kernel) (by decide +kernel)).trans <| bd_cg fun w1 hw1 =>
  l_callV (u := 1) (v := w1) (as := []) (show gPG 149 22 = some (jinvI 1 47) by decide +kernel) (by decide) (cc := 141) (na := 1) (kd := 10) (q4 := 0) (z := 11) (rest := []) (by decide +kernel) (by decide +kernel)  rfl (show (1 : Nat) ≤ 1 by decide) rfl cs0 (by decide +kernel) (cav (jr_gR hw1) ca0)) (
  rfl)
theorem b149_25 (d : Nat) (μ : jM) (a : Nat) (i1 : Int32) (i2 : Int32) (u3 : Value) (s0 : Int32) : jR (d + 1) 149 25 [.ref a, .int i1, .int i2, u3] [.int s0] μ = (if s0 = 42 then (if jrecv μ 11 (.ref a) = true then (jC d 151 [.ref a, .int 42, .int 0, .int 0] μ).bind fun p1 => jR (d + 1) 149 38 [.ref a, .int i1, .int i2, u3] (p1.1.toList ++ []) p1.2 else none) else jR (d + 1) 149 60 [.ref a, .int i1, .int i2, u3] [] μ) :=
  (l_bipush (show gPG 149 25 = some (.bipush 42) by decide +kernel) (c := 42) (by decide +kernel)).trans <|
  (l_cmp (show gPG 149 27 = some (.if_icmp .ne 33) by decide +kernel) (t := 60) (by decide +kernel)).trans <| jm_ne.trans <| ite_cg (
  (l_aload_n (show gPG 149 30 = some (.aload_n 0) by decide +kernel) rfl jr_ref).trans <|
  (l_bipush (show gPG 149 31 = some (.bipush 42) by decide +kernel) (c := 42) (by decide +kernel)).trans <|
  (l_iconst (show gPG 149 33 = some (.iconst 0) by decide +kernel) (c := 0) (by decide +kernel)).trans <|
  (l_iconst (show gPG 149 34 = some (.iconst 0) by decide +kernel) (c := 0) (by decide +kernel)).trans <|
  l_callV (u := 1) (v := .ref a) (as := [.int 42, .int 0, .int 0]) (show gPG 149 35 = some (jinvI 1 82) by decide +kernel) (by decide) (cc := 151) (na := 4) (kd := 11) (q4 := 0) (z := 10) (rest := []) (by decide +kernel) (by decide +kernel)  rfl (show (4 : Nat) ≤ 4 by decide) rfl cs0 (by decide +kernel) (cai (cai (cai (cav jr_ref ca0))))) (
  rfl)
theorem b149_38 (d : Nat) (μ : jM) (a : Nat) (i1 : Int32) (i2 : Int32) (u3 : Value) (s0 : Int32) : jR (d + 1) 149 38 [.ref a, .int i1, .int i2, u3] [.int s0] μ = (if jrecv μ 11 (.ref a) = true then (jC d 150 [.ref a, .int i1] μ).bind fun p1 => jR (d + 1) 149 44 [.ref a, .int i1, .int i2, .int s0] (p1.1.toList ++ []) p1.2 else none) :=
  (l_istore_n (show gPG 149 38 = some (.istore_n 3) by decide +kernel) (ls := [.ref a, .int i1, .int i2, u3]) (show (3 : Nat) < 4 by decide) (show _ = ([.ref a, .int i1, .int i2, .int s0] : List Value) from rfl)).trans <|
  (l_aload_n (show gPG 149 39 = some (.aload_n 0) by decide +kernel) rfl jr_ref).trans <|
  (l_iload_n (show gPG 149 40 = some (.iload_n 1) by decide +kernel) rfl).trans <|
  l_callV (u := 1) (v := .ref a) (as := [.int i1]) (show gPG 149 41 = some (jinvI 1 90) by decide +kernel) (by decide) (cc := 150) (na := 2) (kd := 11) (q4 := 0) (z := 10) (rest := []) (by decide +kernel) (by decide +kernel)  rfl (show (2 : Nat) ≤ 2 by decide) rfl cs0 (by decide +kernel) (cai (cav jr_ref ca0))
theorem b149_44 (d : Nat) (μ : jM) (a : Nat) (i1 : Int32) (i2 : Int32) (i3 : Int32) (s0 : Int32) : jR (d + 1) 149 44 [.ref a, .int i1, .int i2, .int i3] [.int s0] μ = (if s0 = 0 then some (some (.int 0), μ) else (if jrecv μ 11 (.ref a) = true then (jC d 152 [.ref a, .int i3] μ).bind fun p1 => jR (d + 1) 149 54 [.ref a, .int i1, .int i2, .int i3] (p1.1.toList ++ []) p1.2 else none)) :=
  (l_cmp0 (show gPG 149 44 = some (.ifCond .ne 5) by decide +kernel) (t := 49) (by decide +kernel)).trans <| jm_ne.trans <| ite_cg (
  (l_iconst (show gPG 149 47 = some (.iconst 0) by decide +kernel) (c := 0) (by decide +kernel)).trans <|
  l_iretK (show gPG 149 48 = some (.ireturn) by decide +kernel) (by decide +kernel)) (
  (l_aload_n (show gPG 149 49 = some (.aload_n 0) by decide +kernel) rfl jr_ref).trans <|
  (l_iload_n (show gPG 149 50 = some (.iload_n 3) by decide +kernel) rfl).trans <|
  l_callV (u := 1) (v := .ref a) (as := [.int i3]) (show gPG 149 51 = some (jinvI 1 86) by decide +kernel) (by decide) (cc := 152) (na := 2) (kd := 11) (q4 := 0) (z := 10) (rest := []) (by decide +kernel) (by decide +kernel)  rfl (show (2 : Nat) ≤ 2 by decide) rfl cs0 (by decide +kernel) (cai (cav jr_ref ca0)))
theorem b149_54 (d : Nat) (μ : jM) (a : Nat) (i1 : Int32) (i2 : Int32) (u3 : Value) : jR d 149 54 [.ref a, .int i1, .int i2, u3] [] μ = jR d 149 12 [.ref a, .int i1, .int (i2 + 1), u3] [] μ :=
  (l_iinc (show gPG 149 54 = some (.iinc 2 1) by decide +kernel) (c := 1) (by decide +kernel) rfl (show _ = ([.ref a, .int i1, .int (i2 + 1), u3] : List Value) from rfl)).trans <|
  l_goto (show gPG 149 57 = some (.goto (-45)) by decide +kernel) (t := 12) (by decide +kernel)
theorem b149_60 (d : Nat) (μ : jM) (u0 : Value) (u1 : Value) (u2 : Value) (u3 : Value) : jR d 149 60 [u0, u1, u2, u3] [] μ = some (some (.int 1), μ) :=
  (l_iconst (show gPG 149 60 = some (.iconst 1) by decide +kernel) (c := 1) (by decide +kernel)).trans <|
  l_iretK (show gPG 149 61 = some (.ireturn) by decide +kernel) (by decide +kernel)
-- TextReader.readOne
theorem b150_0 (d : Nat) (μ : jM) (a : Nat) (i1 : Int32) : jR (d + 1) 150 0 [.ref a, .int i1] [] μ = (jgR μ 11 0 (.ref a)).bind fun w1 => (if jrecv μ 10 w1 = true then (jC d 141 [w1] μ).bind fun p2 => jR (d + 1) 150 7 [.ref a, .int i1] (p2.1.toList ++ []) p2.2 else none) :=
  (l_aload_n (show gPG 150 0 = some (.aload_n 0) by decide +kernel) rfl jr_ref).trans <|
  (l_gR (show gPG 150 1 = some (.getfield 24) by decide +kernel) (kd := 11) (sl := 0) (tc := 1) (fin := 1) (z := 0) (by decide +kernel) (by decide +kernel) (by decide +kernel)).trans <| bd_cg fun w1 hw1 =>
  l_callV (u := 1) (v := w1) (as := []) (show gPG 150 4 = some (jinvI 1 47) by decide +kernel) (by decide) (cc := 141) (na := 1) (kd := 10) (q4 := 0) (z := 11) (rest := []) (by decide +kernel) (by decide +kernel)  rfl (show (1 : Nat) ≤ 1 by decide) rfl cs0 (by decide +kernel) (cav (jr_gR hw1) ca0)
theorem sw150_7 (x : Int32) : ((jsw (.lookupswitch 132 #[(40, 106), (45, 85), (48, 65), (108, 127), (109, 127), (110, 127), (116, 127)]) x).bind fun o => jtgt 7 o) = if x = 40 then some 113 else if x = 45 then some 92 else if x = 48 then some 72 else if x = 108 then some 134 else if x = 109 then some 134 else if x = 110 then some 134 else if x = 116 then some 134 else some 139 := by
  by_cases h0 : x = 40
  · subst h0; decide +kernel
  by_cases h1 : x = 45
  · subst h1; decide +kernel
  by_cases h2 : x = 48
  · subst h2; decide +kernel
  by_cases h3 : x = 108
  · subst h3; decide +kernel
  by_cases h4 : x = 109
  · subst h4; decide +kernel
  by_cases h5 : x = 110
  · subst h5; decide +kernel
  by_cases h6 : x = 116
  · subst h6; decide +kernel
  have g0 : x.toInt ≠ 40 := fun e => h0 (Int32.toInt_inj.mp (e.trans (by decide +kernel)))
  have g1 : x.toInt ≠ 45 := fun e => h1 (Int32.toInt_inj.mp (e.trans (by decide +kernel)))
  have g2 : x.toInt ≠ 48 := fun e => h2 (Int32.toInt_inj.mp (e.trans (by decide +kernel)))
  have g3 : x.toInt ≠ 108 := fun e => h3 (Int32.toInt_inj.mp (e.trans (by decide +kernel)))
  have g4 : x.toInt ≠ 109 := fun e => h4 (Int32.toInt_inj.mp (e.trans (by decide +kernel)))
  have g5 : x.toInt ≠ 110 := fun e => h5 (Int32.toInt_inj.mp (e.trans (by decide +kernel)))
  have g6 : x.toInt ≠ 116 := fun e => h6 (Int32.toInt_inj.mp (e.trans (by decide +kernel)))
  have e : jsw (.lookupswitch 132 #[(40, 106), (45, 85), (48, 65), (108, 127), (109, 127), (110, 127), (116, 127)]) x = some 132 := by
    simp only [jsw]
    rw [if_pos (by decide +kernel)]
    simp [Op.lookupswitch.offset, Ne.symm g0, g0, Ne.symm g1, g1, Ne.symm g2, g2, Ne.symm g3, g3, Ne.symm g4, g4, Ne.symm g5, g5, Ne.symm g6, g6]
  rw [e]
  simp only [Option.bind_some, h0, if_false, h1, if_false, h2, if_false, h3, if_false, h4, if_false, h5, if_false, h6, if_false]
  decide +kernel
theorem b150_7 (d : Nat) (μ : jM) (a : Nat) (i1 : Int32) (s0 : Int32) : jR (d + 1) 150 7 [.ref a, .int i1] [.int s0] μ = (if s0 = 40 then (if i1 < 4 then (if jrecv μ 11 (.ref a) = true then (jC d 154 [.ref a, .int (i1 + 1)] μ).bind fun p1 => jR (d + 1) 150 125 [.ref a, .int i1] (p1.1.toList ++ []) p1.2 else none) else jR (d + 1) 150 132 [.ref a, .int i1] [] μ) else (if s0 = 45 then (if i1 < 4 then (if jrecv μ 11 (.ref a) = true then (jC d 153 [.ref a, .int (i1 + 1)] μ).bind fun p2 => jR (d + 1) 150 104 [.ref a, .int i1] (p2.1.toList ++ []) p2.2 else none) else jR (d + 1) 150 111 [.ref a, .int i1] [] μ) else (if s0 = 48 then (jgR μ 11 0 (.ref a)).bind fun w3 => (if jrecv μ 10 w3 = true then (jC d 143 [w3] μ).bind fun p4 => jR (d + 1) 150 83 [.ref a, .int i1] (p4.1.toList ++ [.int 48, .ref a, .ref a]) p4.2 else none) else (if s0 = 108 then (if jrecv μ 11 (.ref a) = true then (jC d 156 [.ref a] μ).bind fun p5 => jR (d + 1) 150 138 [.ref a, .int i1] (p5.1.toList ++ []) p5.2 else none) else (if s0 = 109 then (if jrecv μ 11 (.ref a) = true then (jC d 156 [.ref a] μ).bind fun p6 => jR (d + 1) 150 138 [.ref a, .int i1] (p6.1.toList ++ []) p6.2 else none) else (if s0 = 110 then (if jrecv μ 11 (.ref a) = true then (jC d 156 [.ref a] μ).bind fun p7 => jR (d + 1) 150 138 [.ref a, .int i1] (p7.1.toList ++ []) p7.2 else none) else (if s0 = 116 then (if jrecv μ 11 (.ref a) = true then (jC d 156 [.ref a] μ).bind fun p8 => jR (d + 1) 150 138 [.ref a, .int i1] (p8.1.toList ++ []) p8.2 else none) else (jgI μ 11 7 (.ref a)).bind fun x9 => (if jrecv μ 11 (.ref a) = true then (jC d 152 [.ref a, .int x9] μ).bind fun p10 => jR (d + 1) 150 147 [.ref a, .int i1] (p10.1.toList ++ []) p10.2 else none)))))))) :=
  (l_lsw (show gPG 150 7 = some (.lookupswitch 132 #[(40, 106), (45, 85), (48, 65), (108, 127), (109, 127), (110, 127), (116, 127)]) by decide +kernel) sw150_7).trans <| ite_bd (
  (l_iload_n (show gPG 150 113 = some (.iload_n 1) by decide +kernel) rfl).trans <|
  (l_iconst (show gPG 150 114 = some (.iconst 4) by decide +kernel) (c := 4) (by decide +kernel)).trans <|
  (l_cmp (show gPG 150 115 = some (.if_icmp .ge 17) by decide +kernel) (t := 132) (by decide +kernel)).trans <| jm_ge.trans <| ite_cg (
  (l_aload_n (show gPG 150 118 = some (.aload_n 0) by decide +kernel) rfl jr_ref).trans <|
  (l_iload_n (show gPG 150 119 = some (.iload_n 1) by decide +kernel) rfl).trans <|
  (l_iconst (show gPG 150 120 = some (.iconst 1) by decide +kernel) (c := 1) (by decide +kernel)).trans <|
  (l_iadd (show gPG 150 121 = some (.iadd) by decide +kernel) ).trans <|
  l_callV (u := 1) (v := .ref a) (as := [.int (i1 + 1)]) (show gPG 150 122 = some (jinvI 1 96) by decide +kernel) (by decide) (cc := 154) (na := 2) (kd := 11) (q4 := 0) (z := 10) (rest := []) (by decide +kernel) (by decide +kernel)  rfl (show (2 : Nat) ≤ 2 by decide) rfl cs0 (by decide +kernel) (cai (cav jr_ref ca0))) (
  rfl)) (
  ite_bd (
  (l_iload_n (show gPG 150 92 = some (.iload_n 1) by decide +kernel) rfl).trans <|
  (l_iconst (show gPG 150 93 = some (.iconst 4) by decide +kernel) (c := 4) (by decide +kernel)).trans <|
  (l_cmp (show gPG 150 94 = some (.if_icmp .ge 17) by decide +kernel) (t := 111) (by decide +kernel)).trans <| jm_ge.trans <| ite_cg (
  (l_aload_n (show gPG 150 97 = some (.aload_n 0) by decide +kernel) rfl jr_ref).trans <|
  (l_iload_n (show gPG 150 98 = some (.iload_n 1) by decide +kernel) rfl).trans <|
  (l_iconst (show gPG 150 99 = some (.iconst 1) by decide +kernel) (c := 1) (by decide +kernel)).trans <|
  (l_iadd (show gPG 150 100 = some (.iadd) by decide +kernel) ).trans <|
  l_callV (u := 1) (v := .ref a) (as := [.int (i1 + 1)]) (show gPG 150 101 = some (jinvI 1 93) by decide +kernel) (by decide) (cc := 153) (na := 2) (kd := 11) (q4 := 0) (z := 10) (rest := []) (by decide +kernel) (by decide +kernel)  rfl (show (2 : Nat) ≤ 2 by decide) rfl cs0 (by decide +kernel) (cai (cav jr_ref ca0))) (
  rfl)) (
  ite_bd (
  (l_aload_n (show gPG 150 72 = some (.aload_n 0) by decide +kernel) rfl jr_ref).trans <|
  (l_aload_n (show gPG 150 73 = some (.aload_n 0) by decide +kernel) rfl jr_ref).trans <|
  (l_bipush (show gPG 150 74 = some (.bipush 48) by decide +kernel) (c := 48) (by decide +kernel)).trans <|
  (l_aload_n (show gPG 150 76 = some (.aload_n 0) by decide +kernel) rfl jr_ref).trans <|
  (l_gR (show gPG 150 77 = some (.getfield 24) by decide +kernel) (kd := 11) (sl := 0) (tc := 1) (fin := 1) (z := 0) (by decide +kernel) (by decide +kernel) (by decide +kernel)).trans <| bd_cg fun w3 hw3 =>
  l_callV (u := 1) (v := w3) (as := []) (show gPG 150 80 = some (jinvI 1 76) by decide +kernel) (by decide) (cc := 143) (na := 1) (kd := 10) (q4 := 0) (z := 11) (rest := [.int 48, .ref a, .ref a]) (by decide +kernel) (by decide +kernel)  rfl (show (1 : Nat) ≤ 4 by decide) rfl (csi (csv jr_ref (csv jr_ref cs0))) (by decide +kernel) (cav (jr_gR hw3) ca0)) (
  ite_bd (
  (l_aload_n (show gPG 150 134 = some (.aload_n 0) by decide +kernel) rfl jr_ref).trans <|
  l_callV (u := 1) (v := .ref a) (as := []) (show gPG 150 135 = some (jinvI 1 99) by decide +kernel) (by decide) (cc := 156) (na := 1) (kd := 11) (q4 := 0) (z := 10) (rest := []) (by decide +kernel) (by decide +kernel)  rfl (show (1 : Nat) ≤ 1 by decide) rfl cs0 (by decide +kernel) (cav jr_ref ca0)) (
  ite_bd (
  (l_aload_n (show gPG 150 134 = some (.aload_n 0) by decide +kernel) rfl jr_ref).trans <|
  l_callV (u := 1) (v := .ref a) (as := []) (show gPG 150 135 = some (jinvI 1 99) by decide +kernel) (by decide) (cc := 156) (na := 1) (kd := 11) (q4 := 0) (z := 10) (rest := []) (by decide +kernel) (by decide +kernel)  rfl (show (1 : Nat) ≤ 1 by decide) rfl cs0 (by decide +kernel) (cav jr_ref ca0)) (
  ite_bd (
  (l_aload_n (show gPG 150 134 = some (.aload_n 0) by decide +kernel) rfl jr_ref).trans <|
  l_callV (u := 1) (v := .ref a) (as := []) (show gPG 150 135 = some (jinvI 1 99) by decide +kernel) (by decide) (cc := 156) (na := 1) (kd := 11) (q4 := 0) (z := 10) (rest := []) (by decide +kernel) (by decide +kernel)  rfl (show (1 : Nat) ≤ 1 by decide) rfl cs0 (by decide +kernel) (cav jr_ref ca0)) (
  ite_bd (
  (l_aload_n (show gPG 150 134 = some (.aload_n 0) by decide +kernel) rfl jr_ref).trans <|
  l_callV (u := 1) (v := .ref a) (as := []) (show gPG 150 135 = some (jinvI 1 99) by decide +kernel) (by decide) (cc := 156) (na := 1) (kd := 11) (q4 := 0) (z := 10) (rest := []) (by decide +kernel) (by decide +kernel)  rfl (show (1 : Nat) ≤ 1 by decide) rfl cs0 (by decide +kernel) (cav jr_ref ca0)) (
  sm_bd (
  (l_aload_n (show gPG 150 139 = some (.aload_n 0) by decide +kernel) rfl jr_ref).trans <|
  (l_aload_n (show gPG 150 140 = some (.aload_n 0) by decide +kernel) rfl jr_ref).trans <|
  (l_gI (show gPG 150 141 = some (.getfield 36) by decide +kernel) (kd := 11) (sl := 7) (tc := 0) (fin := 0) (z := 0) (by decide +kernel) (by decide +kernel) (by decide +kernel)).trans <| bd_cg fun x9 hx9 =>
  l_callV (u := 1) (v := .ref a) (as := [.int x9]) (show gPG 150 144 = some (jinvI 1 86) by decide +kernel) (by decide) (cc := 152) (na := 2) (kd := 11) (q4 := 0) (z := 10) (rest := []) (by decide +kernel) (by decide +kernel)  rfl (show (2 : Nat) ≤ 2 by decide) rfl cs0 (by decide +kernel) (cai (cav jr_ref ca0))))))))))
theorem b150_83 (d : Nat) (μ : jM) (u0 : Value) (u1 : Value) (s0 : Value) (s1 : Value) (s2 : Int32) (s3 : Int32) (hs0 : jisref s0 = true) (hs1 : jisref s1 = true) : jR (d + 1) 150 83 [u0, u1] [.int s3, .int s2, s1, s0] μ = (if jrecv μ 11 s1 = true then (jC d 151 [s1, .int s2, .int s3, .int 0] μ).bind fun p1 => jR (d + 1) 150 87 [u0, u1] (p1.1.toList ++ [s0]) p1.2 else none) :=
  (l_iconst (show gPG 150 83 = some (.iconst 0) by decide +kernel) (c := 0) (by decide +kernel)).trans <|
  l_callV (u := 1) (v := s1) (as := [.int s2, .int s3, .int 0]) (show gPG 150 84 = some (jinvI 1 82) by decide +kernel) (by decide) (cc := 151) (na := 4) (kd := 11) (q4 := 0) (z := 10) (rest := [s0]) (by decide +kernel) (by decide +kernel)  rfl (show (4 : Nat) ≤ 5 by decide) rfl (csv hs0 cs0) (by decide +kernel) (cai (cai (cai (cav hs1 ca0))))
theorem b150_87 (d : Nat) (μ : jM) (u0 : Value) (u1 : Value) (s0 : Value) (s1 : Int32) (hs0 : jisref s0 = true) : jR (d + 1) 150 87 [u0, u1] [.int s1, s0] μ = (if jrecv μ 11 s0 = true then (jC d 152 [s0, .int s1] μ).bind fun p1 => jR (d + 1) 150 90 [u0, u1] (p1.1.toList ++ []) p1.2 else none) :=
  l_callV (u := 1) (v := s0) (as := [.int s1]) (show gPG 150 87 = some (jinvI 1 86) by decide +kernel) (by decide) (cc := 152) (na := 2) (kd := 11) (q4 := 0) (z := 10) (rest := []) (by decide +kernel) (by decide +kernel)  rfl (show (2 : Nat) ≤ 2 by decide) rfl cs0 (by decide +kernel) (cai (cav hs0 ca0))
theorem b150_90 (d : Nat) (μ : jM) (u0 : Value) (u1 : Value) : jR d 150 90 [u0, u1] [] μ = some (some (.int 1), μ) :=
  (l_iconst (show gPG 150 90 = some (.iconst 1) by decide +kernel) (c := 1) (by decide +kernel)).trans <|
  l_iretK (show gPG 150 91 = some (.ireturn) by decide +kernel) (by decide +kernel)
theorem b150_104 (d : Nat) (μ : jM) (u0 : Value) (u1 : Value) (s0 : Int32) : jR d 150 104 [u0, u1] [.int s0] μ = (if s0 = 0 then jR d 150 111 [u0, u1] [] μ else jR d 150 112 [u0, u1] [.int 1] μ) :=
  (l_cmp0 (show gPG 150 104 = some (.ifCond .eq 7) by decide +kernel) (t := 111) (by decide +kernel)).trans <| jm_eq.trans <| ite_cg (
  rfl) (
  (l_iconst (show gPG 150 107 = some (.iconst 1) by decide +kernel) (c := 1) (by decide +kernel)).trans <|
  l_goto (show gPG 150 108 = some (.goto 4) by decide +kernel) (t := 112) (by decide +kernel))
theorem b150_111 (d : Nat) (μ : jM) (u0 : Value) (u1 : Value) : jR d 150 111 [u0, u1] [] μ = jR d 150 112 [u0, u1] [.int 0] μ :=
  l_iconst (show gPG 150 111 = some (.iconst 0) by decide +kernel) (c := 0) (by decide +kernel)
theorem b150_112 (d : Nat) (μ : jM) (u0 : Value) (u1 : Value) (s0 : Int32) : jR d 150 112 [u0, u1] [.int s0] μ = (if jrf 4 s0 = true then some (some (.int s0), μ) else none) :=
  l_iret (show gPG 150 112 = some (.ireturn) by decide +kernel) (rc := 4) (by decide +kernel)
theorem b150_125 (d : Nat) (μ : jM) (u0 : Value) (u1 : Value) (s0 : Int32) : jR d 150 125 [u0, u1] [.int s0] μ = (if s0 = 0 then jR d 150 132 [u0, u1] [] μ else jR d 150 133 [u0, u1] [.int 1] μ) :=
  (l_cmp0 (show gPG 150 125 = some (.ifCond .eq 7) by decide +kernel) (t := 132) (by decide +kernel)).trans <| jm_eq.trans <| ite_cg (
  rfl) (
  (l_iconst (show gPG 150 128 = some (.iconst 1) by decide +kernel) (c := 1) (by decide +kernel)).trans <|
  l_goto (show gPG 150 129 = some (.goto 4) by decide +kernel) (t := 133) (by decide +kernel))
theorem b150_132 (d : Nat) (μ : jM) (u0 : Value) (u1 : Value) : jR d 150 132 [u0, u1] [] μ = jR d 150 133 [u0, u1] [.int 0] μ :=
  l_iconst (show gPG 150 132 = some (.iconst 0) by decide +kernel) (c := 0) (by decide +kernel)
theorem b150_133 (d : Nat) (μ : jM) (u0 : Value) (u1 : Value) (s0 : Int32) : jR d 150 133 [u0, u1] [.int s0] μ = (if jrf 4 s0 = true then some (some (.int s0), μ) else none) :=
  l_iret (show gPG 150 133 = some (.ireturn) by decide +kernel) (rc := 4) (by decide +kernel)
theorem b150_138 (d : Nat) (μ : jM) (u0 : Value) (u1 : Value) (s0 : Int32) : jR d 150 138 [u0, u1] [.int s0] μ = (if jrf 4 s0 = true then some (some (.int s0), μ) else none) :=
  l_iret (show gPG 150 138 = some (.ireturn) by decide +kernel) (rc := 4) (by decide +kernel)
theorem b150_147 (d : Nat) (μ : jM) (a : Nat) (u1 : Value) : jR (d + 1) 150 147 [.ref a, u1] [] μ = (if jrecv μ 11 (.ref a) = true then (jC d 157 [.ref a] μ).bind fun p1 => jR (d + 1) 150 151 [.ref a, u1] (p1.1.toList ++ []) p1.2 else none) :=
  (l_aload_n (show gPG 150 147 = some (.aload_n 0) by decide +kernel) rfl jr_ref).trans <|
  l_callV (u := 1) (v := .ref a) (as := []) (show gPG 150 148 = some (jinvI 1 102) by decide +kernel) (by decide) (cc := 157) (na := 1) (kd := 11) (q4 := 0) (z := 10) (rest := []) (by decide +kernel) (by decide +kernel)  rfl (show (1 : Nat) ≤ 1 by decide) rfl cs0 (by decide +kernel) (cav jr_ref ca0)
theorem b150_151 (d : Nat) (μ : jM) (u0 : Value) (u1 : Value) (s0 : Int32) : jR d 150 151 [u0, u1] [.int s0] μ = (if jrf 4 s0 = true then some (some (.int s0), μ) else none) :=
  l_iret (show gPG 150 151 = some (.ireturn) by decide +kernel) (rc := 4) (by decide +kernel)
-- TextReader.keepToken
theorem b151_0 (d : Nat) (μ : jM) (a : Nat) (i1 : Int32) (i2 : Int32) (i3 : Int32) : jR d 151 0 [.ref a, .int i1, .int i2, .int i3, .retAddr 0] [] μ = (jgI μ 11 7 (.ref a)).bind fun x1 => (if x1 < 40 then (jgR μ 11 4 (.ref a)).bind fun w2 => (jsI μ w2 x1 i1).bind fun m3 => (jgR m3 11 5 (.ref a)).bind fun w4 => (jsI m3 w4 x1 i2).bind fun m5 => (jgR m5 11 6 (.ref a)).bind fun w6 => (jsI m5 w6 x1 i3).bind fun m7 => (jgI m7 11 7 (.ref a)).bind fun x8 => (jpI m7 11 7 0 (.ref a) (x8 + 1)).bind fun m9 => jR d 151 47 [.ref a, .int i1, .int i2, .int i3, .int x1] [] m9 else jR d 151 47 [.ref a, .int i1, .int i2, .int i3, .int x1] [] μ) :=
  (l_aload_n (show gPG 151 0 = some (.aload_n 0) by decide +kernel) rfl jr_ref).trans <|
  (l_gI (show gPG 151 1 = some (.getfield 36) by decide +kernel) (kd := 11) (sl := 7) (tc := 0) (fin := 0) (z := 0) (by decide +kernel) (by decide +kernel) (by decide +kernel)).trans <| bd_cg fun x1 hx1 =>
  (l_istore (show gPG 151 4 = some (.istore 4) by decide +kernel) (ls := [.ref a, .int i1, .int i2, .int i3, .retAddr 0]) (show (4 : Nat) < 5 by decide) (show _ = ([.ref a, .int i1, .int i2, .int i3, .int x1] : List Value) from rfl)).trans <|
  (l_iload (show gPG 151 6 = some (.iload 4) by decide +kernel) rfl).trans <|
  (l_bipush (show gPG 151 8 = some (.bipush 40) by decide +kernel) (c := 40) (by decide +kernel)).trans <|
  (l_cmp (show gPG 151 10 = some (.if_icmp .ge 37) by decide +kernel) (t := 47) (by decide +kernel)).trans <| jm_ge.trans <| ite_cg (
  (l_aload_n (show gPG 151 13 = some (.aload_n 0) by decide +kernel) rfl jr_ref).trans <|
  (l_gR (show gPG 151 14 = some (.getfield 9) by decide +kernel) (kd := 11) (sl := 4) (tc := 1) (fin := 1) (z := 0) (by decide +kernel) (by decide +kernel) (by decide +kernel)).trans <| bd_cg fun w2 hw2 =>
  (l_iload (show gPG 151 17 = some (.iload 4) by decide +kernel) rfl).trans <|
  (l_iload_n (show gPG 151 19 = some (.iload_n 1) by decide +kernel) rfl).trans <|
  (l_iast (show gPG 151 20 = some (.iastore) by decide +kernel) ).trans <| bd_cg fun m3 hm3 =>
  (l_aload_n (show gPG 151 21 = some (.aload_n 0) by decide +kernel) rfl jr_ref).trans <|
  (l_gR (show gPG 151 22 = some (.getfield 15) by decide +kernel) (kd := 11) (sl := 5) (tc := 1) (fin := 1) (z := 0) (by decide +kernel) (by decide +kernel) (by decide +kernel)).trans <| bd_cg fun w4 hw4 =>
  (l_iload (show gPG 151 25 = some (.iload 4) by decide +kernel) rfl).trans <|
  (l_iload_n (show gPG 151 27 = some (.iload_n 2) by decide +kernel) rfl).trans <|
  (l_iast (show gPG 151 28 = some (.iastore) by decide +kernel) ).trans <| bd_cg fun m5 hm5 =>
  (l_aload_n (show gPG 151 29 = some (.aload_n 0) by decide +kernel) rfl jr_ref).trans <|
  (l_gR (show gPG 151 30 = some (.getfield 18) by decide +kernel) (kd := 11) (sl := 6) (tc := 1) (fin := 1) (z := 0) (by decide +kernel) (by decide +kernel) (by decide +kernel)).trans <| bd_cg fun w6 hw6 =>
  (l_iload (show gPG 151 33 = some (.iload 4) by decide +kernel) rfl).trans <|
  (l_iload_n (show gPG 151 35 = some (.iload_n 3) by decide +kernel) rfl).trans <|
  (l_iast (show gPG 151 36 = some (.iastore) by decide +kernel) ).trans <| bd_cg fun m7 hm7 =>
  (l_aload_n (show gPG 151 37 = some (.aload_n 0) by decide +kernel) rfl jr_ref).trans <|
  (l_dup (show gPG 151 38 = some (.dup) by decide +kernel) (jr_cat1 jr_ref)).trans <|
  (l_gI (show gPG 151 39 = some (.getfield 36) by decide +kernel) (kd := 11) (sl := 7) (tc := 0) (fin := 0) (z := 0) (by decide +kernel) (by decide +kernel) (by decide +kernel)).trans <| bd_cg fun x8 hx8 =>
  (l_iconst (show gPG 151 42 = some (.iconst 1) by decide +kernel) (c := 1) (by decide +kernel)).trans <|
  (l_iadd (show gPG 151 43 = some (.iadd) by decide +kernel) ).trans <|
  (l_pI (show gPG 151 44 = some (.putfield 36) by decide +kernel) (kd := 11) (sl := 7) (tc := 0) (fin := 0) (z := 0) (by decide +kernel) (by decide +kernel) (by decide +kernel)).trans <| bd_cg fun m9 hm9 =>
  rfl) (
  rfl)
theorem b151_47 (d : Nat) (μ : jM) (a : Nat) (u1 : Value) (u2 : Value) (u3 : Value) (i4 : Int32) : jR (d + 1) 151 47 [.ref a, u1, u2, u3, .int i4] [] μ = (jgR μ 11 0 (.ref a)).bind fun w1 => (if jrecv μ 10 w1 = true then (jC d 142 [w1] μ).bind fun p2 => jR (d + 1) 151 54 [.ref a, u1, u2, u3, .int i4] (p2.1.toList ++ []) p2.2 else none) :=
  (l_aload_n (show gPG 151 47 = some (.aload_n 0) by decide +kernel) rfl jr_ref).trans <|
  (l_gR (show gPG 151 48 = some (.getfield 24) by decide +kernel) (kd := 11) (sl := 0) (tc := 1) (fin := 1) (z := 0) (by decide +kernel) (by decide +kernel) (by decide +kernel)).trans <| bd_cg fun w1 hw1 =>
  l_callV (u := 1) (v := w1) (as := []) (show gPG 151 51 = some (jinvI 1 54) by decide +kernel) (by decide) (cc := 142) (na := 1) (kd := 10) (q4 := 0) (z := 11) (rest := []) (by decide +kernel) (by decide +kernel)  rfl (show (1 : Nat) ≤ 1 by decide) rfl cs0 (by decide +kernel) (cav (jr_gR hw1) ca0)
theorem b151_54 (d : Nat) (μ : jM) (u0 : Value) (u1 : Value) (u2 : Value) (u3 : Value) (i4 : Int32) : jR d 151 54 [u0, u1, u2, u3, .int i4] [] μ = some (some (.int i4), μ) :=
  (l_iload (show gPG 151 54 = some (.iload 4) by decide +kernel) rfl).trans <|
  l_iret1 (show gPG 151 56 = some (.ireturn) by decide +kernel) (by decide +kernel)
-- TextReader.workOut
theorem b152_0 (d : Nat) (μ : jM) (a : Nat) (i1 : Int32) : jR d 152 0 [.ref a, .int i1] [] μ = (jgI μ 11 9 (.ref a)).bind fun x1 => (if x1 < 40 then (jgR μ 11 8 (.ref a)).bind fun w2 => (jgI μ 11 9 (.ref a)).bind fun x3 => (jsI μ w2 x3 i1).bind fun m4 => (jgI m4 11 9 (.ref a)).bind fun x5 => (jpI m4 11 9 0 (.ref a) (x5 + 1)).bind fun m6 => jR d 152 29 [.ref a, .int i1] [] m6 else jR d 152 29 [.ref a, .int i1] [] μ) :=
  (l_aload_n (show gPG 152 0 = some (.aload_n 0) by decide +kernel) rfl jr_ref).trans <|
  (l_gI (show gPG 152 1 = some (.getfield 39) by decide +kernel) (kd := 11) (sl := 9) (tc := 0) (fin := 0) (z := 0) (by decide +kernel) (by decide +kernel) (by decide +kernel)).trans <| bd_cg fun x1 hx1 =>
  (l_bipush (show gPG 152 4 = some (.bipush 40) by decide +kernel) (c := 40) (by decide +kernel)).trans <|
  (l_cmp (show gPG 152 6 = some (.if_icmp .ge 23) by decide +kernel) (t := 29) (by decide +kernel)).trans <| jm_ge.trans <| ite_cg (
  (l_aload_n (show gPG 152 9 = some (.aload_n 0) by decide +kernel) rfl jr_ref).trans <|
  (l_gR (show gPG 152 10 = some (.getfield 21) by decide +kernel) (kd := 11) (sl := 8) (tc := 1) (fin := 1) (z := 0) (by decide +kernel) (by decide +kernel) (by decide +kernel)).trans <| bd_cg fun w2 hw2 =>
  (l_aload_n (show gPG 152 13 = some (.aload_n 0) by decide +kernel) rfl jr_ref).trans <|
  (l_gI (show gPG 152 14 = some (.getfield 39) by decide +kernel) (kd := 11) (sl := 9) (tc := 0) (fin := 0) (z := 0) (by decide +kernel) (by decide +kernel) (by decide +kernel)).trans <| bd_cg fun x3 hx3 =>
  (l_iload_n (show gPG 152 17 = some (.iload_n 1) by decide +kernel) rfl).trans <|
  (l_iast (show gPG 152 18 = some (.iastore) by decide +kernel) ).trans <| bd_cg fun m4 hm4 =>
  (l_aload_n (show gPG 152 19 = some (.aload_n 0) by decide +kernel) rfl jr_ref).trans <|
  (l_dup (show gPG 152 20 = some (.dup) by decide +kernel) (jr_cat1 jr_ref)).trans <|
  (l_gI (show gPG 152 21 = some (.getfield 39) by decide +kernel) (kd := 11) (sl := 9) (tc := 0) (fin := 0) (z := 0) (by decide +kernel) (by decide +kernel) (by decide +kernel)).trans <| bd_cg fun x5 hx5 =>
  (l_iconst (show gPG 152 24 = some (.iconst 1) by decide +kernel) (c := 1) (by decide +kernel)).trans <|
  (l_iadd (show gPG 152 25 = some (.iadd) by decide +kernel) ).trans <|
  (l_pI (show gPG 152 26 = some (.putfield 39) by decide +kernel) (kd := 11) (sl := 9) (tc := 0) (fin := 0) (z := 0) (by decide +kernel) (by decide +kernel) (by decide +kernel)).trans <| bd_cg fun m6 hm6 =>
  rfl) (
  rfl)
theorem b152_29 (d : Nat) (μ : jM) (u0 : Value) (u1 : Value) : jR d 152 29 [u0, u1] [] μ = some (none, μ) :=
  l_ret (show gPG 152 29 = some (.return_) by decide +kernel) (by decide +kernel)
-- TextReader.readNegative
theorem b153_0 (d : Nat) (μ : jM) (a : Nat) (i1 : Int32) : jR (d + 1) 153 0 [.ref a, .int i1, .retAddr 0] [] μ = (if jrecv μ 11 (.ref a) = true then (jC d 151 [.ref a, .int 103, .int 0, .int 0] μ).bind fun p1 => jR (d + 1) 153 8 [.ref a, .int i1, .retAddr 0] (p1.1.toList ++ []) p1.2 else none) :=
  (l_aload_n (show gPG 153 0 = some (.aload_n 0) by decide +kernel) rfl jr_ref).trans <|
  (l_bipush (show gPG 153 1 = some (.bipush 103) by decide +kernel) (c := 103) (by decide +kernel)).trans <|
  (l_iconst (show gPG 153 3 = some (.iconst 0) by decide +kernel) (c := 0) (by decide +kernel)).trans <|
  (l_iconst (show gPG 153 4 = some (.iconst 0) by decide +kernel) (c := 0) (by decide +kernel)).trans <|
  l_callV (u := 1) (v := .ref a) (as := [.int 103, .int 0, .int 0]) (show gPG 153 5 = some (jinvI 1 82) by decide +kernel) (by decide) (cc := 151) (na := 4) (kd := 11) (q4 := 0) (z := 10) (rest := []) (by decide +kernel) (by decide +kernel)  rfl (show (4 : Nat) ≤ 4 by decide) rfl cs0 (by decide +kernel) (cai (cai (cai (cav jr_ref ca0))))
theorem b153_8 (d : Nat) (μ : jM) (a : Nat) (i1 : Int32) (u2 : Value) (s0 : Int32) : jR (d + 1) 153 8 [.ref a, .int i1, u2] [.int s0] μ = (if jrecv μ 11 (.ref a) = true then (jC d 150 [.ref a, .int i1] μ).bind fun p1 => jR (d + 1) 153 14 [.ref a, .int i1, .int s0] (p1.1.toList ++ []) p1.2 else none) :=
  (l_istore_n (show gPG 153 8 = some (.istore_n 2) by decide +kernel) (ls := [.ref a, .int i1, u2]) (show (2 : Nat) < 3 by decide) (show _ = ([.ref a, .int i1, .int s0] : List Value) from rfl)).trans <|
  (l_aload_n (show gPG 153 9 = some (.aload_n 0) by decide +kernel) rfl jr_ref).trans <|
  (l_iload_n (show gPG 153 10 = some (.iload_n 1) by decide +kernel) rfl).trans <|
  l_callV (u := 1) (v := .ref a) (as := [.int i1]) (show gPG 153 11 = some (jinvI 1 90) by decide +kernel) (by decide) (cc := 150) (na := 2) (kd := 11) (q4 := 0) (z := 10) (rest := []) (by decide +kernel) (by decide +kernel)  rfl (show (2 : Nat) ≤ 2 by decide) rfl cs0 (by decide +kernel) (cai (cav jr_ref ca0))
theorem b153_14 (d : Nat) (μ : jM) (a : Nat) (u1 : Value) (i2 : Int32) (s0 : Int32) : jR (d + 1) 153 14 [.ref a, u1, .int i2] [.int s0] μ = (if s0 = 0 then some (some (.int 0), μ) else (if jrecv μ 11 (.ref a) = true then (jC d 152 [.ref a, .int i2] μ).bind fun p1 => jR (d + 1) 153 24 [.ref a, u1, .int i2] (p1.1.toList ++ []) p1.2 else none)) :=
  (l_cmp0 (show gPG 153 14 = some (.ifCond .ne 5) by decide +kernel) (t := 19) (by decide +kernel)).trans <| jm_ne.trans <| ite_cg (
  (l_iconst (show gPG 153 17 = some (.iconst 0) by decide +kernel) (c := 0) (by decide +kernel)).trans <|
  l_iretK (show gPG 153 18 = some (.ireturn) by decide +kernel) (by decide +kernel)) (
  (l_aload_n (show gPG 153 19 = some (.aload_n 0) by decide +kernel) rfl jr_ref).trans <|
  (l_iload_n (show gPG 153 20 = some (.iload_n 2) by decide +kernel) rfl).trans <|
  l_callV (u := 1) (v := .ref a) (as := [.int i2]) (show gPG 153 21 = some (jinvI 1 86) by decide +kernel) (by decide) (cc := 152) (na := 2) (kd := 11) (q4 := 0) (z := 10) (rest := []) (by decide +kernel) (by decide +kernel)  rfl (show (2 : Nat) ≤ 2 by decide) rfl cs0 (by decide +kernel) (cai (cav jr_ref ca0)))
theorem b153_24 (d : Nat) (μ : jM) (u0 : Value) (u1 : Value) (u2 : Value) : jR d 153 24 [u0, u1, u2] [] μ = some (some (.int 1), μ) :=
  (l_iconst (show gPG 153 24 = some (.iconst 1) by decide +kernel) (c := 1) (by decide +kernel)).trans <|
  l_iretK (show gPG 153 25 = some (.ireturn) by decide +kernel) (by decide +kernel)
-- TextReader.readBracket
theorem b154_0 (d : Nat) (μ : jM) (a : Nat) (i1 : Int32) : jR (d + 1) 154 0 [.ref a, .int i1] [] μ = (if jrecv μ 11 (.ref a) = true then (jC d 151 [.ref a, .int 40, .int 0, .int 0] μ).bind fun p1 => jR (d + 1) 154 8 [.ref a, .int i1] (p1.1.toList ++ []) p1.2 else none) :=
  (l_aload_n (show gPG 154 0 = some (.aload_n 0) by decide +kernel) rfl jr_ref).trans <|
  (l_bipush (show gPG 154 1 = some (.bipush 40) by decide +kernel) (c := 40) (by decide +kernel)).trans <|
  (l_iconst (show gPG 154 3 = some (.iconst 0) by decide +kernel) (c := 0) (by decide +kernel)).trans <|
  (l_iconst (show gPG 154 4 = some (.iconst 0) by decide +kernel) (c := 0) (by decide +kernel)).trans <|
  l_callV (u := 1) (v := .ref a) (as := [.int 40, .int 0, .int 0]) (show gPG 154 5 = some (jinvI 1 82) by decide +kernel) (by decide) (cc := 151) (na := 4) (kd := 11) (q4 := 0) (z := 10) (rest := []) (by decide +kernel) (by decide +kernel)  rfl (show (4 : Nat) ≤ 4 by decide) rfl cs0 (by decide +kernel) (cai (cai (cai (cav jr_ref ca0))))
theorem b154_8 (d : Nat) (μ : jM) (a : Nat) (i1 : Int32) (s0 : Int32) : jR (d + 1) 154 8 [.ref a, .int i1] [.int s0] μ = (if jrecv μ 11 (.ref a) = true then (jC d 148 [.ref a, .int i1] μ).bind fun p1 => jR (d + 1) 154 14 [.ref a, .int i1] (p1.1.toList ++ []) p1.2 else none) :=
  (l_pop (show gPG 154 8 = some (.pop) by decide +kernel) rfl).trans <|
  (l_aload_n (show gPG 154 9 = some (.aload_n 0) by decide +kernel) rfl jr_ref).trans <|
  (l_iload_n (show gPG 154 10 = some (.iload_n 1) by decide +kernel) rfl).trans <|
  l_callV (u := 1) (v := .ref a) (as := [.int i1]) (show gPG 154 11 = some (jinvI 1 57) by decide +kernel) (by decide) (cc := 148) (na := 2) (kd := 11) (q4 := 0) (z := 10) (rest := []) (by decide +kernel) (by decide +kernel)  rfl (show (2 : Nat) ≤ 2 by decide) rfl cs0 (by decide +kernel) (cai (cav jr_ref ca0))
theorem b154_14 (d : Nat) (μ : jM) (a : Nat) (u1 : Value) (s0 : Int32) : jR (d + 1) 154 14 [.ref a, u1] [.int s0] μ = (if s0 = 0 then jR (d + 1) 154 30 [.ref a, u1] [] μ else (if jrecv μ 11 (.ref a) = true then (jC d 155 [.ref a, .int 41] μ).bind fun p1 => jR (d + 1) 154 23 [.ref a, u1] (p1.1.toList ++ []) p1.2 else none)) :=
  (l_cmp0 (show gPG 154 14 = some (.ifCond .eq 16) by decide +kernel) (t := 30) (by decide +kernel)).trans <| jm_eq.trans <| ite_cg (
  rfl) (
  (l_aload_n (show gPG 154 17 = some (.aload_n 0) by decide +kernel) rfl jr_ref).trans <|
  (l_bipush (show gPG 154 18 = some (.bipush 41) by decide +kernel) (c := 41) (by decide +kernel)).trans <|
  l_callV (u := 1) (v := .ref a) (as := [.int 41]) (show gPG 154 20 = some (jinvI 1 105) by decide +kernel) (by decide) (cc := 155) (na := 2) (kd := 11) (q4 := 0) (z := 10) (rest := []) (by decide +kernel) (by decide +kernel)  rfl (show (2 : Nat) ≤ 2 by decide) rfl cs0 (by decide +kernel) (cai (cav jr_ref ca0)))
theorem b154_23 (d : Nat) (μ : jM) (u0 : Value) (u1 : Value) (s0 : Int32) : jR d 154 23 [u0, u1] [.int s0] μ = (if s0 = 0 then jR d 154 30 [u0, u1] [] μ else jR d 154 31 [u0, u1] [.int 1] μ) :=
  (l_cmp0 (show gPG 154 23 = some (.ifCond .eq 7) by decide +kernel) (t := 30) (by decide +kernel)).trans <| jm_eq.trans <| ite_cg (
  rfl) (
  (l_iconst (show gPG 154 26 = some (.iconst 1) by decide +kernel) (c := 1) (by decide +kernel)).trans <|
  l_goto (show gPG 154 27 = some (.goto 4) by decide +kernel) (t := 31) (by decide +kernel))
theorem b154_30 (d : Nat) (μ : jM) (u0 : Value) (u1 : Value) : jR d 154 30 [u0, u1] [] μ = jR d 154 31 [u0, u1] [.int 0] μ :=
  l_iconst (show gPG 154 30 = some (.iconst 0) by decide +kernel) (c := 0) (by decide +kernel)
theorem b154_31 (d : Nat) (μ : jM) (u0 : Value) (u1 : Value) (s0 : Int32) : jR d 154 31 [u0, u1] [.int s0] μ = (if jrf 4 s0 = true then some (some (.int s0), μ) else none) :=
  l_iret (show gPG 154 31 = some (.ireturn) by decide +kernel) (rc := 4) (by decide +kernel)
-- TextReader.readSign
theorem b155_0 (d : Nat) (μ : jM) (a : Nat) (i1 : Int32) : jR (d + 1) 155 0 [.ref a, .int i1] [] μ = (jgR μ 11 0 (.ref a)).bind fun w1 => (if jrecv μ 10 w1 = true then (jC d 141 [w1] μ).bind fun p2 => jR (d + 1) 155 7 [.ref a, .int i1] (p2.1.toList ++ []) p2.2 else none) :=
  (l_aload_n (show gPG 155 0 = some (.aload_n 0) by decide +kernel) rfl jr_ref).trans <|
  (l_gR (show gPG 155 1 = some (.getfield 24) by decide +kernel) (kd := 11) (sl := 0) (tc := 1) (fin := 1) (z := 0) (by decide +kernel) (by decide +kernel) (by decide +kernel)).trans <| bd_cg fun w1 hw1 =>
  l_callV (u := 1) (v := w1) (as := []) (show gPG 155 4 = some (jinvI 1 47) by decide +kernel) (by decide) (cc := 141) (na := 1) (kd := 10) (q4 := 0) (z := 11) (rest := []) (by decide +kernel) (by decide +kernel)  rfl (show (1 : Nat) ≤ 1 by decide) rfl cs0 (by decide +kernel) (cav (jr_gR hw1) ca0)
theorem b155_7 (d : Nat) (μ : jM) (a : Nat) (i1 : Int32) (s0 : Int32) : jR (d + 1) 155 7 [.ref a, .int i1] [.int s0] μ = (if s0 = i1 then (if jrecv μ 11 (.ref a) = true then (jC d 151 [.ref a, .int i1, .int 0, .int 0] μ).bind fun p1 => jR (d + 1) 155 20 [.ref a, .int i1] (p1.1.toList ++ []) p1.2 else none) else some (some (.int 0), μ)) :=
  (l_iload_n (show gPG 155 7 = some (.iload_n 1) by decide +kernel) rfl).trans <|
  (l_cmp (show gPG 155 8 = some (.if_icmp .eq 5) by decide +kernel) (t := 13) (by decide +kernel)).trans <| jm_eq.trans <| ite_cg (
  (l_aload_n (show gPG 155 13 = some (.aload_n 0) by decide +kernel) rfl jr_ref).trans <|
  (l_iload_n (show gPG 155 14 = some (.iload_n 1) by decide +kernel) rfl).trans <|
  (l_iconst (show gPG 155 15 = some (.iconst 0) by decide +kernel) (c := 0) (by decide +kernel)).trans <|
  (l_iconst (show gPG 155 16 = some (.iconst 0) by decide +kernel) (c := 0) (by decide +kernel)).trans <|
  l_callV (u := 1) (v := .ref a) (as := [.int i1, .int 0, .int 0]) (show gPG 155 17 = some (jinvI 1 82) by decide +kernel) (by decide) (cc := 151) (na := 4) (kd := 11) (q4 := 0) (z := 10) (rest := []) (by decide +kernel) (by decide +kernel)  rfl (show (4 : Nat) ≤ 4 by decide) rfl cs0 (by decide +kernel) (cai (cai (cai (cav jr_ref ca0))))) (
  (l_iconst (show gPG 155 11 = some (.iconst 0) by decide +kernel) (c := 0) (by decide +kernel)).trans <|
  l_iretK (show gPG 155 12 = some (.ireturn) by decide +kernel) (by decide +kernel))
theorem b155_20 (d : Nat) (μ : jM) (u0 : Value) (u1 : Value) (s0 : Int32) : jR d 155 20 [u0, u1] [.int s0] μ = some (some (.int 1), μ) :=
  (l_pop (show gPG 155 20 = some (.pop) by decide +kernel) rfl).trans <|
  (l_iconst (show gPG 155 21 = some (.iconst 1) by decide +kernel) (c := 1) (by decide +kernel)).trans <|
  l_iretK (show gPG 155 22 = some (.ireturn) by decide +kernel) (by decide +kernel)
-- TextReader.readRange
theorem b156_0 (d : Nat) (μ : jM) (a : Nat) : jR (d + 1) 156 0 [.ref a] [] μ = (jgR μ 11 0 (.ref a)).bind fun w1 => (if jrecv μ 10 w1 = true then (jC d 141 [w1] μ).bind fun p2 => jR (d + 1) 156 9 [.ref a] (p2.1.toList ++ [.ref a, .ref a]) p2.2 else none) :=
  (l_aload_n (show gPG 156 0 = some (.aload_n 0) by decide +kernel) rfl jr_ref).trans <|
  (l_aload_n (show gPG 156 1 = some (.aload_n 0) by decide +kernel) rfl jr_ref).trans <|
  (l_aload_n (show gPG 156 2 = some (.aload_n 0) by decide +kernel) rfl jr_ref).trans <|
  (l_gR (show gPG 156 3 = some (.getfield 24) by decide +kernel) (kd := 11) (sl := 0) (tc := 1) (fin := 1) (z := 0) (by decide +kernel) (by decide +kernel) (by decide +kernel)).trans <| bd_cg fun w1 hw1 =>
  l_callV (u := 1) (v := w1) (as := []) (show gPG 156 6 = some (jinvI 1 47) by decide +kernel) (by decide) (cc := 141) (na := 1) (kd := 10) (q4 := 0) (z := 11) (rest := [.ref a, .ref a]) (by decide +kernel) (by decide +kernel)  rfl (show (1 : Nat) ≤ 3 by decide) rfl (csv jr_ref (csv jr_ref cs0)) (by decide +kernel) (cav (jr_gR hw1) ca0)
theorem b156_9 (d : Nat) (μ : jM) (a : Nat) (s0 : Value) (s1 : Value) (s2 : Int32) (hs0 : jisref s0 = true) (hs1 : jisref s1 = true) : jR (d + 1) 156 9 [.ref a] [.int s2, s1, s0] μ = (if jrecv μ 11 s1 = true then (jC d 151 [s1, .int s2, .int 0, .int 0] μ).bind fun p1 => jR (d + 1) 156 14 [.ref a] (p1.1.toList ++ [s0]) p1.2 else none) :=
  (l_iconst (show gPG 156 9 = some (.iconst 0) by decide +kernel) (c := 0) (by decide +kernel)).trans <|
  (l_iconst (show gPG 156 10 = some (.iconst 0) by decide +kernel) (c := 0) (by decide +kernel)).trans <|
  l_callV (u := 1) (v := s1) (as := [.int s2, .int 0, .int 0]) (show gPG 156 11 = some (jinvI 1 82) by decide +kernel) (by decide) (cc := 151) (na := 4) (kd := 11) (q4 := 0) (z := 10) (rest := [s0]) (by decide +kernel) (by decide +kernel)  rfl (show (4 : Nat) ≤ 5 by decide) rfl (csv hs0 cs0) (by decide +kernel) (cai (cai (cai (cav hs1 ca0))))
theorem b156_14 (d : Nat) (μ : jM) (a : Nat) (s0 : Value) (s1 : Int32) (hs0 : jisref s0 = true) : jR (d + 1) 156 14 [.ref a] [.int s1, s0] μ = (if jrecv μ 11 s0 = true then (jC d 152 [s0, .int s1] μ).bind fun p1 => jR (d + 1) 156 17 [.ref a] (p1.1.toList ++ []) p1.2 else none) :=
  l_callV (u := 1) (v := s0) (as := [.int s1]) (show gPG 156 14 = some (jinvI 1 86) by decide +kernel) (by decide) (cc := 152) (na := 2) (kd := 11) (q4 := 0) (z := 10) (rest := []) (by decide +kernel) (by decide +kernel)  rfl (show (2 : Nat) ≤ 2 by decide) rfl cs0 (by decide +kernel) (cai (cav hs0 ca0))
theorem b156_17 (d : Nat) (μ : jM) (a : Nat) : jR (d + 1) 156 17 [.ref a] [] μ = (if jrecv μ 11 (.ref a) = true then (jC d 155 [.ref a, .int 40] μ).bind fun p1 => jR (d + 1) 156 23 [.ref a] (p1.1.toList ++ []) p1.2 else none) :=
  (l_aload_n (show gPG 156 17 = some (.aload_n 0) by decide +kernel) rfl jr_ref).trans <|
  (l_bipush (show gPG 156 18 = some (.bipush 40) by decide +kernel) (c := 40) (by decide +kernel)).trans <|
  l_callV (u := 1) (v := .ref a) (as := [.int 40]) (show gPG 156 20 = some (jinvI 1 105) by decide +kernel) (by decide) (cc := 155) (na := 2) (kd := 11) (q4 := 0) (z := 10) (rest := []) (by decide +kernel) (by decide +kernel)  rfl (show (2 : Nat) ≤ 2 by decide) rfl cs0 (by decide +kernel) (cai (cav jr_ref ca0))
theorem b156_23 (d : Nat) (μ : jM) (a : Nat) (s0 : Int32) : jR (d + 1) 156 23 [.ref a] [.int s0] μ = (if s0 = 0 then jR (d + 1) 156 62 [.ref a] [] μ else (if jrecv μ 11 (.ref a) = true then (jC d 157 [.ref a] μ).bind fun p1 => jR (d + 1) 156 30 [.ref a] (p1.1.toList ++ []) p1.2 else none)) :=
  (l_cmp0 (show gPG 156 23 = some (.ifCond .eq 39) by decide +kernel) (t := 62) (by decide +kernel)).trans <| jm_eq.trans <| ite_cg (
  rfl) (
  (l_aload_n (show gPG 156 26 = some (.aload_n 0) by decide +kernel) rfl jr_ref).trans <|
  l_callV (u := 1) (v := .ref a) (as := []) (show gPG 156 27 = some (jinvI 1 102) by decide +kernel) (by decide) (cc := 157) (na := 1) (kd := 11) (q4 := 0) (z := 10) (rest := []) (by decide +kernel) (by decide +kernel)  rfl (show (1 : Nat) ≤ 1 by decide) rfl cs0 (by decide +kernel) (cav jr_ref ca0))
theorem b156_30 (d : Nat) (μ : jM) (a : Nat) (s0 : Int32) : jR (d + 1) 156 30 [.ref a] [.int s0] μ = (if s0 = 0 then jR (d + 1) 156 62 [.ref a] [] μ else (if jrecv μ 11 (.ref a) = true then (jC d 155 [.ref a, .int 58] μ).bind fun p1 => jR (d + 1) 156 39 [.ref a] (p1.1.toList ++ []) p1.2 else none)) :=
  (l_cmp0 (show gPG 156 30 = some (.ifCond .eq 32) by decide +kernel) (t := 62) (by decide +kernel)).trans <| jm_eq.trans <| ite_cg (
  rfl) (
  (l_aload_n (show gPG 156 33 = some (.aload_n 0) by decide +kernel) rfl jr_ref).trans <|
  (l_bipush (show gPG 156 34 = some (.bipush 58) by decide +kernel) (c := 58) (by decide +kernel)).trans <|
  l_callV (u := 1) (v := .ref a) (as := [.int 58]) (show gPG 156 36 = some (jinvI 1 105) by decide +kernel) (by decide) (cc := 155) (na := 2) (kd := 11) (q4 := 0) (z := 10) (rest := []) (by decide +kernel) (by decide +kernel)  rfl (show (2 : Nat) ≤ 2 by decide) rfl cs0 (by decide +kernel) (cai (cav jr_ref ca0)))
theorem b156_39 (d : Nat) (μ : jM) (a : Nat) (s0 : Int32) : jR (d + 1) 156 39 [.ref a] [.int s0] μ = (if s0 = 0 then jR (d + 1) 156 62 [.ref a] [] μ else (if jrecv μ 11 (.ref a) = true then (jC d 157 [.ref a] μ).bind fun p1 => jR (d + 1) 156 46 [.ref a] (p1.1.toList ++ []) p1.2 else none)) :=
  (l_cmp0 (show gPG 156 39 = some (.ifCond .eq 23) by decide +kernel) (t := 62) (by decide +kernel)).trans <| jm_eq.trans <| ite_cg (
  rfl) (
  (l_aload_n (show gPG 156 42 = some (.aload_n 0) by decide +kernel) rfl jr_ref).trans <|
  l_callV (u := 1) (v := .ref a) (as := []) (show gPG 156 43 = some (jinvI 1 102) by decide +kernel) (by decide) (cc := 157) (na := 1) (kd := 11) (q4 := 0) (z := 10) (rest := []) (by decide +kernel) (by decide +kernel)  rfl (show (1 : Nat) ≤ 1 by decide) rfl cs0 (by decide +kernel) (cav jr_ref ca0))
theorem b156_46 (d : Nat) (μ : jM) (a : Nat) (s0 : Int32) : jR (d + 1) 156 46 [.ref a] [.int s0] μ = (if s0 = 0 then jR (d + 1) 156 62 [.ref a] [] μ else (if jrecv μ 11 (.ref a) = true then (jC d 155 [.ref a, .int 41] μ).bind fun p1 => jR (d + 1) 156 55 [.ref a] (p1.1.toList ++ []) p1.2 else none)) :=
  (l_cmp0 (show gPG 156 46 = some (.ifCond .eq 16) by decide +kernel) (t := 62) (by decide +kernel)).trans <| jm_eq.trans <| ite_cg (
  rfl) (
  (l_aload_n (show gPG 156 49 = some (.aload_n 0) by decide +kernel) rfl jr_ref).trans <|
  (l_bipush (show gPG 156 50 = some (.bipush 41) by decide +kernel) (c := 41) (by decide +kernel)).trans <|
  l_callV (u := 1) (v := .ref a) (as := [.int 41]) (show gPG 156 52 = some (jinvI 1 105) by decide +kernel) (by decide) (cc := 155) (na := 2) (kd := 11) (q4 := 0) (z := 10) (rest := []) (by decide +kernel) (by decide +kernel)  rfl (show (2 : Nat) ≤ 2 by decide) rfl cs0 (by decide +kernel) (cai (cav jr_ref ca0)))
theorem b156_55 (d : Nat) (μ : jM) (u0 : Value) (s0 : Int32) : jR d 156 55 [u0] [.int s0] μ = (if s0 = 0 then jR d 156 62 [u0] [] μ else jR d 156 63 [u0] [.int 1] μ) :=
  (l_cmp0 (show gPG 156 55 = some (.ifCond .eq 7) by decide +kernel) (t := 62) (by decide +kernel)).trans <| jm_eq.trans <| ite_cg (
  rfl) (
  (l_iconst (show gPG 156 58 = some (.iconst 1) by decide +kernel) (c := 1) (by decide +kernel)).trans <|
  l_goto (show gPG 156 59 = some (.goto 4) by decide +kernel) (t := 63) (by decide +kernel))
theorem b156_62 (d : Nat) (μ : jM) (u0 : Value) : jR d 156 62 [u0] [] μ = jR d 156 63 [u0] [.int 0] μ :=
  l_iconst (show gPG 156 62 = some (.iconst 0) by decide +kernel) (c := 0) (by decide +kernel)
theorem b156_63 (d : Nat) (μ : jM) (u0 : Value) (s0 : Int32) : jR d 156 63 [u0] [.int s0] μ = (if jrf 4 s0 = true then some (some (.int s0), μ) else none) :=
  l_iret (show gPG 156 63 = some (.ireturn) by decide +kernel) (rc := 4) (by decide +kernel)
-- TextReader.readRef
theorem b157_0 (d : Nat) (μ : jM) (a : Nat) : jR (d + 1) 157 0 [.ref a, .retAddr 0, .retAddr 0, .retAddr 0] [] μ = (jgR μ 11 0 (.ref a)).bind fun w1 => (if jrecv μ 10 w1 = true then (jC d 141 [w1] μ).bind fun p2 => jR (d + 1) 157 7 [.ref a, .retAddr 0, .retAddr 0, .retAddr 0] (p2.1.toList ++ []) p2.2 else none) :=
  (l_aload_n (show gPG 157 0 = some (.aload_n 0) by decide +kernel) rfl jr_ref).trans <|
  (l_gR (show gPG 157 1 = some (.getfield 24) by decide +kernel) (kd := 11) (sl := 0) (tc := 1) (fin := 1) (z := 0) (by decide +kernel) (by decide +kernel) (by decide +kernel)).trans <| bd_cg fun w1 hw1 =>
  l_callV (u := 1) (v := w1) (as := []) (show gPG 157 4 = some (jinvI 1 47) by decide +kernel) (by decide) (cc := 141) (na := 1) (kd := 10) (q4 := 0) (z := 11) (rest := []) (by decide +kernel) (by decide +kernel)  rfl (show (1 : Nat) ≤ 1 by decide) rfl cs0 (by decide +kernel) (cav (jr_gR hw1) ca0)
theorem b157_7 (d : Nat) (μ : jM) (a : Nat) (u1 : Value) (u2 : Value) (u3 : Value) (s0 : Int32) : jR (d + 1) 157 7 [.ref a, u1, u2, u3] [.int s0] μ = (if s0 = 35 then (if jrecv μ 11 (.ref a) = true then (jC d 151 [.ref a, .int 114, .int 0, .int 0] μ).bind fun p3 => jR (d + 1) 157 20 [.ref a, u1, u2, u3] (p3.1.toList ++ []) p3.2 else none) else (jgR μ 11 0 (.ref a)).bind fun w1 => (if jrecv μ 10 w1 = true then (jC d 141 [w1] μ).bind fun p2 => jR (d + 1) 157 30 [.ref a, u1, u2, u3] (p2.1.toList ++ []) p2.2 else none)) :=
  (l_bipush (show gPG 157 7 = some (.bipush 35) by decide +kernel) (c := 35) (by decide +kernel)).trans <|
  (l_cmp (show gPG 157 9 = some (.if_icmp .ne 14) by decide +kernel) (t := 23) (by decide +kernel)).trans <| jm_ne.trans <| ite_cg (
  (l_aload_n (show gPG 157 12 = some (.aload_n 0) by decide +kernel) rfl jr_ref).trans <|
  (l_bipush (show gPG 157 13 = some (.bipush 114) by decide +kernel) (c := 114) (by decide +kernel)).trans <|
  (l_iconst (show gPG 157 15 = some (.iconst 0) by decide +kernel) (c := 0) (by decide +kernel)).trans <|
  (l_iconst (show gPG 157 16 = some (.iconst 0) by decide +kernel) (c := 0) (by decide +kernel)).trans <|
  l_callV (u := 1) (v := .ref a) (as := [.int 114, .int 0, .int 0]) (show gPG 157 17 = some (jinvI 1 82) by decide +kernel) (by decide) (cc := 151) (na := 4) (kd := 11) (q4 := 0) (z := 10) (rest := []) (by decide +kernel) (by decide +kernel)  rfl (show (4 : Nat) ≤ 4 by decide) rfl cs0 (by decide +kernel) (cai (cai (cai (cav jr_ref ca0))))) (
  (l_aload_n (show gPG 157 23 = some (.aload_n 0) by decide +kernel) rfl jr_ref).trans <|
  (l_gR (show gPG 157 24 = some (.getfield 24) by decide +kernel) (kd := 11) (sl := 0) (tc := 1) (fin := 1) (z := 0) (by decide +kernel) (by decide +kernel) (by decide +kernel)).trans <| bd_cg fun w1 hw1 =>
  l_callV (u := 1) (v := w1) (as := []) (show gPG 157 27 = some (jinvI 1 47) by decide +kernel) (by decide) (cc := 141) (na := 1) (kd := 10) (q4 := 0) (z := 11) (rest := []) (by decide +kernel) (by decide +kernel)  rfl (show (1 : Nat) ≤ 1 by decide) rfl cs0 (by decide +kernel) (cav (jr_gR hw1) ca0))
theorem b157_20 (d : Nat) (μ : jM) (u0 : Value) (u1 : Value) (u2 : Value) (u3 : Value) (s0 : Int32) : jR d 157 20 [u0, u1, u2, u3] [.int s0] μ = some (some (.int 1), μ) :=
  (l_pop (show gPG 157 20 = some (.pop) by decide +kernel) rfl).trans <|
  (l_iconst (show gPG 157 21 = some (.iconst 1) by decide +kernel) (c := 1) (by decide +kernel)).trans <|
  l_iretK (show gPG 157 22 = some (.ireturn) by decide +kernel) (by decide +kernel)
theorem b157_30 (d : Nat) (μ : jM) (a : Nat) (u1 : Value) (u2 : Value) (u3 : Value) (s0 : Int32) : jR d 157 30 [.ref a, u1, u2, u3] [.int s0] μ = (if s0 = 36 then jR d 157 42 [.ref a, u1, u2, u3] [.int 115] μ else jR d 157 42 [.ref a, u1, u2, u3] [.int 114] μ) :=
  (l_bipush (show gPG 157 30 = some (.bipush 36) by decide +kernel) (c := 36) (by decide +kernel)).trans <|
  (l_cmp (show gPG 157 32 = some (.if_icmp .ne 8) by decide +kernel) (t := 40) (by decide +kernel)).trans <| jm_ne.trans <| ite_cg (
  (l_bipush (show gPG 157 35 = some (.bipush 115) by decide +kernel) (c := 115) (by decide +kernel)).trans <|
  l_goto (show gPG 157 37 = some (.goto 5) by decide +kernel) (t := 42) (by decide +kernel)) (
  l_bipush (show gPG 157 40 = some (.bipush 114) by decide +kernel) (c := 114) (by decide +kernel))
theorem b157_42 (d : Nat) (μ : jM) (a : Nat) (u1 : Value) (u2 : Value) (u3 : Value) (s0 : Int32) : jR (d + 1) 157 42 [.ref a, u1, u2, u3] [.int s0] μ = (if s0 = 115 then (jgR μ 11 0 (.ref a)).bind fun w1 => (if jrecv μ 10 w1 = true then (jC d 142 [w1] μ).bind fun p2 => jR (d + 1) 157 56 [.ref a, .int s0, u2, u3] (p2.1.toList ++ []) p2.2 else none) else jR (d + 1) 157 56 [.ref a, .int s0, u2, u3] [] μ) :=
  (l_istore_n (show gPG 157 42 = some (.istore_n 1) by decide +kernel) (ls := [.ref a, u1, u2, u3]) (show (1 : Nat) < 4 by decide) (show _ = ([.ref a, .int s0, u2, u3] : List Value) from rfl)).trans <|
  (l_iload_n (show gPG 157 43 = some (.iload_n 1) by decide +kernel) rfl).trans <|
  (l_bipush (show gPG 157 44 = some (.bipush 115) by decide +kernel) (c := 115) (by decide +kernel)).trans <|
  (l_cmp (show gPG 157 46 = some (.if_icmp .ne 10) by decide +kernel) (t := 56) (by decide +kernel)).trans <| jm_ne.trans <| ite_cg (
  (l_aload_n (show gPG 157 49 = some (.aload_n 0) by decide +kernel) rfl jr_ref).trans <|
  (l_gR (show gPG 157 50 = some (.getfield 24) by decide +kernel) (kd := 11) (sl := 0) (tc := 1) (fin := 1) (z := 0) (by decide +kernel) (by decide +kernel) (by decide +kernel)).trans <| bd_cg fun w1 hw1 =>
  l_callV (u := 1) (v := w1) (as := []) (show gPG 157 53 = some (jinvI 1 54) by decide +kernel) (by decide) (cc := 142) (na := 1) (kd := 10) (q4 := 0) (z := 11) (rest := []) (by decide +kernel) (by decide +kernel)  rfl (show (1 : Nat) ≤ 1 by decide) rfl cs0 (by decide +kernel) (cav (jr_gR hw1) ca0)) (
  rfl)
theorem b157_56 (d : Nat) (μ : jM) (a : Nat) (i1 : Int32) (u2 : Value) (u3 : Value) : jR (d + 1) 157 56 [.ref a, .int i1, u2, u3] [] μ = (jgR μ 11 0 (.ref a)).bind fun w1 => (if jrecv μ 10 w1 = true then (jC d 141 [w1] μ).bind fun p2 => jR (d + 1) 157 63 [.ref a, .int i1, u2, u3] (p2.1.toList ++ []) p2.2 else none) :=
  (l_aload_n (show gPG 157 56 = some (.aload_n 0) by decide +kernel) rfl jr_ref).trans <|
  (l_gR (show gPG 157 57 = some (.getfield 24) by decide +kernel) (kd := 11) (sl := 0) (tc := 1) (fin := 1) (z := 0) (by decide +kernel) (by decide +kernel) (by decide +kernel)).trans <| bd_cg fun w1 hw1 =>
  l_callV (u := 1) (v := w1) (as := []) (show gPG 157 60 = some (jinvI 1 47) by decide +kernel) (by decide) (cc := 141) (na := 1) (kd := 10) (q4 := 0) (z := 11) (rest := []) (by decide +kernel) (by decide +kernel)  rfl (show (1 : Nat) ≤ 1 by decide) rfl cs0 (by decide +kernel) (cav (jr_gR hw1) ca0)
theorem b157_63 (d : Nat) (μ : jM) (a : Nat) (i1 : Int32) (u2 : Value) (u3 : Value) (s0 : Int32) : jR (d + 1) 157 63 [.ref a, .int i1, u2, u3] [.int s0] μ = (if s0 = 97 then (jgR μ 11 0 (.ref a)).bind fun w1 => (if jrecv μ 10 w1 = true then (jC d 143 [w1] μ).bind fun p2 => jR (d + 1) 157 77 [.ref a, .int i1, u2, u3] (p2.1.toList ++ []) p2.2 else none) else some (some (.int 0), μ)) :=
  (l_bipush (show gPG 157 63 = some (.bipush 97) by decide +kernel) (c := 97) (by decide +kernel)).trans <|
  (l_cmp (show gPG 157 65 = some (.if_icmp .eq 5) by decide +kernel) (t := 70) (by decide +kernel)).trans <| jm_eq.trans <| ite_cg (
  (l_aload_n (show gPG 157 70 = some (.aload_n 0) by decide +kernel) rfl jr_ref).trans <|
  (l_gR (show gPG 157 71 = some (.getfield 24) by decide +kernel) (kd := 11) (sl := 0) (tc := 1) (fin := 1) (z := 0) (by decide +kernel) (by decide +kernel) (by decide +kernel)).trans <| bd_cg fun w1 hw1 =>
  l_callV (u := 1) (v := w1) (as := []) (show gPG 157 74 = some (jinvI 1 76) by decide +kernel) (by decide) (cc := 143) (na := 1) (kd := 10) (q4 := 0) (z := 11) (rest := []) (by decide +kernel) (by decide +kernel)  rfl (show (1 : Nat) ≤ 1 by decide) rfl cs0 (by decide +kernel) (cav (jr_gR hw1) ca0)) (
  (l_iconst (show gPG 157 68 = some (.iconst 0) by decide +kernel) (c := 0) (by decide +kernel)).trans <|
  l_iretK (show gPG 157 69 = some (.ireturn) by decide +kernel) (by decide +kernel))
theorem b157_77 (d : Nat) (μ : jM) (a : Nat) (i1 : Int32) (u2 : Value) (u3 : Value) (s0 : Int32) : jR (d + 1) 157 77 [.ref a, .int i1, u2, u3] [.int s0] μ = (jgR μ 11 0 (.ref a)).bind fun w1 => (if jrecv μ 10 w1 = true then (jC d 142 [w1] μ).bind fun p2 => jR (d + 1) 157 85 [.ref a, .int i1, .int s0, u3] (p2.1.toList ++ []) p2.2 else none) :=
  (l_istore_n (show gPG 157 77 = some (.istore_n 2) by decide +kernel) (ls := [.ref a, .int i1, u2, u3]) (show (2 : Nat) < 4 by decide) (show _ = ([.ref a, .int i1, .int s0, u3] : List Value) from rfl)).trans <|
  (l_aload_n (show gPG 157 78 = some (.aload_n 0) by decide +kernel) rfl jr_ref).trans <|
  (l_gR (show gPG 157 79 = some (.getfield 24) by decide +kernel) (kd := 11) (sl := 0) (tc := 1) (fin := 1) (z := 0) (by decide +kernel) (by decide +kernel) (by decide +kernel)).trans <| bd_cg fun w1 hw1 =>
  l_callV (u := 1) (v := w1) (as := []) (show gPG 157 82 = some (jinvI 1 54) by decide +kernel) (by decide) (cc := 142) (na := 1) (kd := 10) (q4 := 0) (z := 11) (rest := []) (by decide +kernel) (by decide +kernel)  rfl (show (1 : Nat) ≤ 1 by decide) rfl cs0 (by decide +kernel) (cav (jr_gR hw1) ca0)
theorem b157_85 (d : Nat) (μ : jM) (a : Nat) (i1 : Int32) (i2 : Int32) (u3 : Value) : jR (d + 1) 157 85 [.ref a, .int i1, .int i2, u3] [] μ = (jgR μ 11 0 (.ref a)).bind fun w1 => (if jrecv μ 10 w1 = true then (jC d 141 [w1] μ).bind fun p2 => jR (d + 1) 157 92 [.ref a, .int i1, .int i2, u3] (p2.1.toList ++ []) p2.2 else none) :=
  (l_aload_n (show gPG 157 85 = some (.aload_n 0) by decide +kernel) rfl jr_ref).trans <|
  (l_gR (show gPG 157 86 = some (.getfield 24) by decide +kernel) (kd := 11) (sl := 0) (tc := 1) (fin := 1) (z := 0) (by decide +kernel) (by decide +kernel) (by decide +kernel)).trans <| bd_cg fun w1 hw1 =>
  l_callV (u := 1) (v := w1) (as := []) (show gPG 157 89 = some (jinvI 1 47) by decide +kernel) (by decide) (cc := 141) (na := 1) (kd := 10) (q4 := 0) (z := 11) (rest := []) (by decide +kernel) (by decide +kernel)  rfl (show (1 : Nat) ≤ 1 by decide) rfl cs0 (by decide +kernel) (cav (jr_gR hw1) ca0)
theorem b157_92 (d : Nat) (μ : jM) (a : Nat) (i1 : Int32) (i2 : Int32) (u3 : Value) (s0 : Int32) : jR (d + 1) 157 92 [.ref a, .int i1, .int i2, u3] [.int s0] μ = (if s0 = 48 then (jgR μ 11 1 (.ref a)).bind fun w1 => (jgR μ 11 0 (.ref a)).bind fun w2 => (if jrecv μ 10 w2 = true then (jC d 143 [w2] μ).bind fun p3 => jR (d + 1) 157 108 [.ref a, .int i1, .int i2, u3] (p3.1.toList ++ [w1]) p3.2 else none) else jR (d + 1) 157 117 [.ref a, .int i1, .int i2, u3] [.int 0] μ) :=
  (l_bipush (show gPG 157 92 = some (.bipush 48) by decide +kernel) (c := 48) (by decide +kernel)).trans <|
  (l_cmp (show gPG 157 94 = some (.if_icmp .ne 22) by decide +kernel) (t := 116) (by decide +kernel)).trans <| jm_ne.trans <| ite_cg (
  (l_aload_n (show gPG 157 97 = some (.aload_n 0) by decide +kernel) rfl jr_ref).trans <|
  (l_gR (show gPG 157 98 = some (.getfield 28) by decide +kernel) (kd := 11) (sl := 1) (tc := 1) (fin := 0) (z := 0) (by decide +kernel) (by decide +kernel) (by decide +kernel)).trans <| bd_cg fun w1 hw1 =>
  (l_aload_n (show gPG 157 101 = some (.aload_n 0) by decide +kernel) rfl jr_ref).trans <|
  (l_gR (show gPG 157 102 = some (.getfield 24) by decide +kernel) (kd := 11) (sl := 0) (tc := 1) (fin := 1) (z := 0) (by decide +kernel) (by decide +kernel) (by decide +kernel)).trans <| bd_cg fun w2 hw2 =>
  l_callV (u := 1) (v := w2) (as := []) (show gPG 157 105 = some (jinvI 1 76) by decide +kernel) (by decide) (cc := 143) (na := 1) (kd := 10) (q4 := 0) (z := 11) (rest := [w1]) (by decide +kernel) (by decide +kernel)  rfl (show (1 : Nat) ≤ 2 by decide) rfl (csv (jr_gR hw1) cs0) (by decide +kernel) (cav (jr_gR hw2) ca0)) (
  l_iconst (show gPG 157 116 = some (.iconst 0) by decide +kernel) (c := 0) (by decide +kernel))
theorem b157_108 (d : Nat) (μ : jM) (a : Nat) (i1 : Int32) (i2 : Int32) (u3 : Value) (s0 : Value) (s1 : Int32) (hs0 : jisref s0 = true) : jR (d + 1) 157 108 [.ref a, .int i1, .int i2, u3] [.int s1, s0] μ = (if jrecv μ 6 s0 = true then (jC d 89 [s0, .int (s1 - 1)] μ).bind fun p1 => jR (d + 1) 157 113 [.ref a, .int i1, .int i2, u3] (p1.1.toList ++ []) p1.2 else none) :=
  (l_iconst (show gPG 157 108 = some (.iconst 1) by decide +kernel) (c := 1) (by decide +kernel)).trans <|
  (l_isub (show gPG 157 109 = some (.isub) by decide +kernel) ).trans <|
  l_callV (u := 1) (v := s0) (as := [.int (s1 - 1)]) (show gPG 157 110 = some (jinvI 1 108) by decide +kernel) (by decide) (cc := 89) (na := 2) (kd := 6) (q4 := 0) (z := 11) (rest := []) (by decide +kernel) (by decide +kernel)  rfl (show (2 : Nat) ≤ 2 by decide) rfl cs0 (by decide +kernel) (cai (cav hs0 ca0))
theorem b157_113 (d : Nat) (μ : jM) (a : Nat) (i1 : Int32) (i2 : Int32) (u3 : Value) (s0 : Int32) : jR d 157 113 [.ref a, .int i1, .int i2, u3] [.int s0] μ = jR d 157 117 [.ref a, .int i1, .int i2, u3] [.int s0] μ :=
  l_goto (show gPG 157 113 = some (.goto 4) by decide +kernel) (t := 117) (by decide +kernel)
theorem b157_117 (d : Nat) (μ : jM) (a : Nat) (i1 : Int32) (i2 : Int32) (u3 : Value) (s0 : Int32) : jR (d + 1) 157 117 [.ref a, .int i1, .int i2, u3] [.int s0] μ = (if s0 = 0 then some (some (.int 0), μ) else (if jrecv μ 11 (.ref a) = true then (jC d 151 [.ref a, .int i1, .int i2, .int s0] μ).bind fun p1 => jR (d + 1) 157 131 [.ref a, .int i1, .int i2, .int s0] (p1.1.toList ++ []) p1.2 else none)) :=
  (l_istore_n (show gPG 157 117 = some (.istore_n 3) by decide +kernel) (ls := [.ref a, .int i1, .int i2, u3]) (show (3 : Nat) < 4 by decide) (show _ = ([.ref a, .int i1, .int i2, .int s0] : List Value) from rfl)).trans <|
  (l_iload_n (show gPG 157 118 = some (.iload_n 3) by decide +kernel) rfl).trans <|
  (l_cmp0 (show gPG 157 119 = some (.ifCond .ne 5) by decide +kernel) (t := 124) (by decide +kernel)).trans <| jm_ne.trans <| ite_cg (
  (l_iconst (show gPG 157 122 = some (.iconst 0) by decide +kernel) (c := 0) (by decide +kernel)).trans <|
  l_iretK (show gPG 157 123 = some (.ireturn) by decide +kernel) (by decide +kernel)) (
  (l_aload_n (show gPG 157 124 = some (.aload_n 0) by decide +kernel) rfl jr_ref).trans <|
  (l_iload_n (show gPG 157 125 = some (.iload_n 1) by decide +kernel) rfl).trans <|
  (l_iload_n (show gPG 157 126 = some (.iload_n 2) by decide +kernel) rfl).trans <|
  (l_iload_n (show gPG 157 127 = some (.iload_n 3) by decide +kernel) rfl).trans <|
  l_callV (u := 1) (v := .ref a) (as := [.int i1, .int i2, .int s0]) (show gPG 157 128 = some (jinvI 1 82) by decide +kernel) (by decide) (cc := 151) (na := 4) (kd := 11) (q4 := 0) (z := 10) (rest := []) (by decide +kernel) (by decide +kernel)  rfl (show (4 : Nat) ≤ 4 by decide) rfl cs0 (by decide +kernel) (cai (cai (cai (cav jr_ref ca0)))))
theorem b157_131 (d : Nat) (μ : jM) (u0 : Value) (u1 : Value) (u2 : Value) (u3 : Value) (s0 : Int32) : jR d 157 131 [u0, u1, u2, u3] [.int s0] μ = some (some (.int 1), μ) :=
  (l_pop (show gPG 157 131 = some (.pop) by decide +kernel) rfl).trans <|
  (l_iconst (show gPG 157 132 = some (.iconst 1) by decide +kernel) (c := 1) (by decide +kernel)).trans <|
  l_iretK (show gPG 157 133 = some (.ireturn) by decide +kernel) (by decide +kernel)
-- TextReader.readNumber
theorem b158_0 (d : Nat) (μ : jM) (a : Nat) : jR (d + 1) 158 0 [.ref a, .retAddr 0] [] μ = (jgR μ 11 0 (.ref a)).bind fun w1 => (if jrecv μ 10 w1 = true then (jC d 141 [w1] μ).bind fun p2 => jR (d + 1) 158 7 [.ref a, .retAddr 0] (p2.1.toList ++ []) p2.2 else none) :=
  (l_aload_n (show gPG 158 0 = some (.aload_n 0) by decide +kernel) rfl jr_ref).trans <|
  (l_gR (show gPG 158 1 = some (.getfield 24) by decide +kernel) (kd := 11) (sl := 0) (tc := 1) (fin := 1) (z := 0) (by decide +kernel) (by decide +kernel) (by decide +kernel)).trans <| bd_cg fun w1 hw1 =>
  l_callV (u := 1) (v := w1) (as := []) (show gPG 158 4 = some (jinvI 1 47) by decide +kernel) (by decide) (cc := 141) (na := 1) (kd := 10) (q4 := 0) (z := 11) (rest := []) (by decide +kernel) (by decide +kernel)  rfl (show (1 : Nat) ≤ 1 by decide) rfl cs0 (by decide +kernel) (cav (jr_gR hw1) ca0)
theorem b158_7 (d : Nat) (μ : jM) (a : Nat) (u1 : Value) (s0 : Int32) : jR d 158 7 [.ref a, u1] [.int s0] μ = (if s0 = 45 then jR d 158 17 [.ref a, u1] [.int 1] μ else jR d 158 17 [.ref a, u1] [.int 0] μ) :=
  (l_bipush (show gPG 158 7 = some (.bipush 45) by decide +kernel) (c := 45) (by decide +kernel)).trans <|
  (l_cmp (show gPG 158 9 = some (.if_icmp .ne 7) by decide +kernel) (t := 16) (by decide +kernel)).trans <| jm_ne.trans <| ite_cg (
  (l_iconst (show gPG 158 12 = some (.iconst 1) by decide +kernel) (c := 1) (by decide +kernel)).trans <|
  l_goto (show gPG 158 13 = some (.goto 4) by decide +kernel) (t := 17) (by decide +kernel)) (
  l_iconst (show gPG 158 16 = some (.iconst 0) by decide +kernel) (c := 0) (by decide +kernel))
theorem b158_17 (d : Nat) (μ : jM) (a : Nat) (u1 : Value) (s0 : Int32) : jR (d + 1) 158 17 [.ref a, u1] [.int s0] μ = (if s0 = 0 then jR (d + 1) 158 29 [.ref a, .int s0] [] μ else (jgR μ 11 0 (.ref a)).bind fun w1 => (if jrecv μ 10 w1 = true then (jC d 142 [w1] μ).bind fun p2 => jR (d + 1) 158 29 [.ref a, .int s0] (p2.1.toList ++ []) p2.2 else none)) :=
  (l_istore_n (show gPG 158 17 = some (.istore_n 1) by decide +kernel) (ls := [.ref a, u1]) (show (1 : Nat) < 2 by decide) (show _ = ([.ref a, .int s0] : List Value) from rfl)).trans <|
  (l_iload_n (show gPG 158 18 = some (.iload_n 1) by decide +kernel) rfl).trans <|
  (l_cmp0 (show gPG 158 19 = some (.ifCond .eq 10) by decide +kernel) (t := 29) (by decide +kernel)).trans <| jm_eq.trans <| ite_cg (
  rfl) (
  (l_aload_n (show gPG 158 22 = some (.aload_n 0) by decide +kernel) rfl jr_ref).trans <|
  (l_gR (show gPG 158 23 = some (.getfield 24) by decide +kernel) (kd := 11) (sl := 0) (tc := 1) (fin := 1) (z := 0) (by decide +kernel) (by decide +kernel) (by decide +kernel)).trans <| bd_cg fun w1 hw1 =>
  l_callV (u := 1) (v := w1) (as := []) (show gPG 158 26 = some (jinvI 1 54) by decide +kernel) (by decide) (cc := 142) (na := 1) (kd := 10) (q4 := 0) (z := 11) (rest := []) (by decide +kernel) (by decide +kernel)  rfl (show (1 : Nat) ≤ 1 by decide) rfl cs0 (by decide +kernel) (cav (jr_gR hw1) ca0))
theorem b158_29 (d : Nat) (μ : jM) (a : Nat) (i1 : Int32) : jR (d + 1) 158 29 [.ref a, .int i1] [] μ = (jgR μ 11 0 (.ref a)).bind fun w1 => (if jrecv μ 10 w1 = true then (jC d 141 [w1] μ).bind fun p2 => jR (d + 1) 158 36 [.ref a, .int i1] (p2.1.toList ++ []) p2.2 else none) :=
  (l_aload_n (show gPG 158 29 = some (.aload_n 0) by decide +kernel) rfl jr_ref).trans <|
  (l_gR (show gPG 158 30 = some (.getfield 24) by decide +kernel) (kd := 11) (sl := 0) (tc := 1) (fin := 1) (z := 0) (by decide +kernel) (by decide +kernel) (by decide +kernel)).trans <| bd_cg fun w1 hw1 =>
  l_callV (u := 1) (v := w1) (as := []) (show gPG 158 33 = some (jinvI 1 47) by decide +kernel) (by decide) (cc := 141) (na := 1) (kd := 10) (q4 := 0) (z := 11) (rest := []) (by decide +kernel) (by decide +kernel)  rfl (show (1 : Nat) ≤ 1 by decide) rfl cs0 (by decide +kernel) (cav (jr_gR hw1) ca0)
theorem b158_36 (d : Nat) (μ : jM) (a : Nat) (i1 : Int32) (s0 : Int32) : jR (d + 1) 158 36 [.ref a, .int i1] [.int s0] μ = (if s0 = 48 then (if i1 = 0 then (jgR μ 11 0 (.ref a)).bind fun w1 => (if jrecv μ 10 w1 = true then (jC d 143 [w1] μ).bind fun p2 => jR (d + 1) 158 66 [.ref a, .int i1] (p2.1.toList ++ [.ref a]) p2.2 else none) else (jgR μ 11 0 (.ref a)).bind fun w3 => (if jrecv μ 10 w3 = true then (jC d 143 [w3] μ).bind fun p4 => jR (d + 1) 158 55 [.ref a, .int i1] (p4.1.toList ++ [.ref a]) p4.2 else none)) else some (some (.int 0), μ)) :=
  (l_bipush (show gPG 158 36 = some (.bipush 48) by decide +kernel) (c := 48) (by decide +kernel)).trans <|
  (l_cmp (show gPG 158 38 = some (.if_icmp .eq 5) by decide +kernel) (t := 43) (by decide +kernel)).trans <| jm_eq.trans <| ite_cg (
  (l_aload_n (show gPG 158 43 = some (.aload_n 0) by decide +kernel) rfl jr_ref).trans <|
  (l_iload_n (show gPG 158 44 = some (.iload_n 1) by decide +kernel) rfl).trans <|
  (l_cmp0 (show gPG 158 45 = some (.ifCond .eq 14) by decide +kernel) (t := 59) (by decide +kernel)).trans <| jm_eq.trans <| ite_cg (
  (l_aload_n (show gPG 158 59 = some (.aload_n 0) by decide +kernel) rfl jr_ref).trans <|
  (l_gR (show gPG 158 60 = some (.getfield 24) by decide +kernel) (kd := 11) (sl := 0) (tc := 1) (fin := 1) (z := 0) (by decide +kernel) (by decide +kernel) (by decide +kernel)).trans <| bd_cg fun w1 hw1 =>
  l_callV (u := 1) (v := w1) (as := []) (show gPG 158 63 = some (jinvI 1 76) by decide +kernel) (by decide) (cc := 143) (na := 1) (kd := 10) (q4 := 0) (z := 11) (rest := [.ref a]) (by decide +kernel) (by decide +kernel)  rfl (show (1 : Nat) ≤ 2 by decide) rfl (csv jr_ref cs0) (by decide +kernel) (cav (jr_gR hw1) ca0)) (
  (l_aload_n (show gPG 158 48 = some (.aload_n 0) by decide +kernel) rfl jr_ref).trans <|
  (l_gR (show gPG 158 49 = some (.getfield 24) by decide +kernel) (kd := 11) (sl := 0) (tc := 1) (fin := 1) (z := 0) (by decide +kernel) (by decide +kernel) (by decide +kernel)).trans <| bd_cg fun w3 hw3 =>
  l_callV (u := 1) (v := w3) (as := []) (show gPG 158 52 = some (jinvI 1 76) by decide +kernel) (by decide) (cc := 143) (na := 1) (kd := 10) (q4 := 0) (z := 11) (rest := [.ref a]) (by decide +kernel) (by decide +kernel)  rfl (show (1 : Nat) ≤ 2 by decide) rfl (csv jr_ref cs0) (by decide +kernel) (cav (jr_gR hw3) ca0))) (
  (l_iconst (show gPG 158 41 = some (.iconst 0) by decide +kernel) (c := 0) (by decide +kernel)).trans <|
  l_iretK (show gPG 158 42 = some (.ireturn) by decide +kernel) (by decide +kernel))
theorem b158_55 (d : Nat) (μ : jM) (a : Nat) (u1 : Value) (s0 : Value) (s1 : Int32) (hs0 : jisref s0 = true) : jR d 158 55 [.ref a, u1] [.int s1, s0] μ = jR d 158 66 [.ref a, u1] [.int (-s1), s0] μ :=
  (l_ineg (show gPG 158 55 = some (.ineg) by decide +kernel) ).trans <|
  l_goto (show gPG 158 56 = some (.goto 10) by decide +kernel) (t := 66) (by decide +kernel)
theorem b158_66 (d : Nat) (μ : jM) (a : Nat) (u1 : Value) (s0 : Value) (s1 : Int32) (hs0 : jisref s0 = true) : jR (d + 1) 158 66 [.ref a, u1] [.int s1, s0] μ = (jpI μ 11 3 0 s0 s1).bind fun m1 => (jgR m1 11 0 (.ref a)).bind fun w2 => (if jrecv m1 10 w2 = true then (jC d 142 [w2] m1).bind fun p3 => jR (d + 1) 158 76 [.ref a, u1] (p3.1.toList ++ []) p3.2 else none) :=
  (l_pI (show gPG 158 66 = some (.putfield 32) by decide +kernel) (kd := 11) (sl := 3) (tc := 0) (fin := 0) (z := 0) (by decide +kernel) (by decide +kernel) (by decide +kernel)).trans <| bd_cg fun m1 hm1 =>
  (l_aload_n (show gPG 158 69 = some (.aload_n 0) by decide +kernel) rfl jr_ref).trans <|
  (l_gR (show gPG 158 70 = some (.getfield 24) by decide +kernel) (kd := 11) (sl := 0) (tc := 1) (fin := 1) (z := 0) (by decide +kernel) (by decide +kernel) (by decide +kernel)).trans <| bd_cg fun w2 hw2 =>
  l_callV (u := 1) (v := w2) (as := []) (show gPG 158 73 = some (jinvI 1 54) by decide +kernel) (by decide) (cc := 142) (na := 1) (kd := 10) (q4 := 0) (z := 11) (rest := []) (by decide +kernel) (by decide +kernel)  rfl (show (1 : Nat) ≤ 1 by decide) rfl cs0 (by decide +kernel) (cav (jr_gR hw2) ca0)
theorem b158_76 (d : Nat) (μ : jM) (u0 : Value) (u1 : Value) : jR d 158 76 [u0, u1] [] μ = some (some (.int 1), μ) :=
  (l_iconst (show gPG 158 76 = some (.iconst 1) by decide +kernel) (c := 1) (by decide +kernel)).trans <|
  l_iretK (show gPG 158 77 = some (.ireturn) by decide +kernel) (by decide +kernel)
-- TextReader.formula
theorem b159_0 (d : Nat) (μ : jM) (a : Nat) : jR (d + 1) 159 0 [.ref a] [] μ = (jgI μ 11 2 (.ref a)).bind fun x1 => (if x1 = 2 then (jgR ((jnew μ 5 0 4)) 11 4 (.ref a)).bind fun w2 => (jgI ((jnew μ 5 0 4)) 11 7 (.ref a)).bind fun x3 => (jC d 304 [w2, .int x3] ((jnew μ 5 0 4))).bind fun p4 => jR (d + 1) 159 25 [.ref a] (p4.1.toList ++ [(.ref (jsz μ)), (.ref (jsz μ))]) p4.2 else some (some .null, μ)) :=
  (l_aload_n (show gPG 159 0 = some (.aload_n 0) by decide +kernel) rfl jr_ref).trans <|
  (l_gI (show gPG 159 1 = some (.getfield 51) by decide +kernel) (kd := 11) (sl := 2) (tc := 0) (fin := 0) (z := 0) (by decide +kernel) (by decide +kernel) (by decide +kernel)).trans <| bd_cg fun x1 hx1 =>
  (l_iconst (show gPG 159 4 = some (.iconst 2) by decide +kernel) (c := 2) (by decide +kernel)).trans <|
  (l_cmp (show gPG 159 5 = some (.if_icmp .eq 5) by decide +kernel) (t := 10) (by decide +kernel)).trans <| jm_eq.trans <| ite_cg (
  (l_new (show gPG 159 10 = some (.new 65) by decide +kernel) (kd := 5) (wd := 4) (q3 := 0) (q4 := 0) (by decide +kernel)).trans <|
  (l_dup (show gPG 159 13 = some (.dup) by decide +kernel) (jr_cat1 jr_ref)).trans <|
  (l_aload_n (show gPG 159 14 = some (.aload_n 0) by decide +kernel) rfl jr_ref).trans <|
  (l_gR (show gPG 159 15 = some (.getfield 9) by decide +kernel) (kd := 11) (sl := 4) (tc := 1) (fin := 1) (z := 0) (by decide +kernel) (by decide +kernel) (by decide +kernel)).trans <| bd_cg fun w2 hw2 =>
  (l_aload_n (show gPG 159 18 = some (.aload_n 0) by decide +kernel) rfl jr_ref).trans <|
  (l_gI (show gPG 159 19 = some (.getfield 36) by decide +kernel) (kd := 11) (sl := 7) (tc := 0) (fin := 0) (z := 0) (by decide +kernel) (by decide +kernel) (by decide +kernel)).trans <| bd_cg fun x3 hx3 =>
  l_callS (u := 2) (as := [w2, .int x3]) (show gPG 159 22 = some (jinvI 2 67) by decide +kernel) (by decide) (cc := 304) (na := 2) (q4 := 0) (z := 12) (rest := [(.ref (jsz μ)), (.ref (jsz μ))]) (by decide +kernel) (by decide +kernel)  rfl (show (2 : Nat) ≤ 4 by decide) rfl (csv jr_ref (csv jr_ref cs0)) (by decide +kernel) (cai (cav (jr_gR hw2) ca0)) (fun e => absurd e (by decide))) (
  (l_anull (show gPG 159 8 = some (.aconst_null) by decide +kernel) ).trans <|
  l_aret (show gPG 159 9 = some (.areturn) by decide +kernel) (by decide +kernel) jr_null)
theorem b159_25 (d : Nat) (μ : jM) (a : Nat) (s0 : Nat) (s1 : Nat) (s2 : Value) (hs2 : jisref s2 = true) : jR (d + 1) 159 25 [.ref a] [s2, (.ref s1), (.ref s0)] μ = (jgR μ 11 5 (.ref a)).bind fun w1 => (jgI μ 11 7 (.ref a)).bind fun x2 => (jC d 304 [w1, .int x2] μ).bind fun p3 => jR (d + 1) 159 36 [.ref a] (p3.1.toList ++ [s2, (.ref s1), (.ref s0)]) p3.2 :=
  (l_aload_n (show gPG 159 25 = some (.aload_n 0) by decide +kernel) rfl jr_ref).trans <|
  (l_gR (show gPG 159 26 = some (.getfield 15) by decide +kernel) (kd := 11) (sl := 5) (tc := 1) (fin := 1) (z := 0) (by decide +kernel) (by decide +kernel) (by decide +kernel)).trans <| bd_cg fun w1 hw1 =>
  (l_aload_n (show gPG 159 29 = some (.aload_n 0) by decide +kernel) rfl jr_ref).trans <|
  (l_gI (show gPG 159 30 = some (.getfield 36) by decide +kernel) (kd := 11) (sl := 7) (tc := 0) (fin := 0) (z := 0) (by decide +kernel) (by decide +kernel) (by decide +kernel)).trans <| bd_cg fun x2 hx2 =>
  l_callS (u := 2) (as := [w1, .int x2]) (show gPG 159 33 = some (jinvI 2 67) by decide +kernel) (by decide) (cc := 304) (na := 2) (q4 := 0) (z := 12) (rest := [s2, (.ref s1), (.ref s0)]) (by decide +kernel) (by decide +kernel)  rfl (show (2 : Nat) ≤ 5 by decide) rfl (csv hs2 (csv jr_ref (csv jr_ref cs0))) (by decide +kernel) (cai (cav (jr_gR hw1) ca0)) (fun e => absurd e (by decide))
theorem b159_36 (d : Nat) (μ : jM) (a : Nat) (s0 : Nat) (s1 : Nat) (s2 : Value) (s3 : Value) (hs2 : jisref s2 = true) (hs3 : jisref s3 = true) : jR (d + 1) 159 36 [.ref a] [s3, s2, (.ref s1), (.ref s0)] μ = (jgR μ 11 6 (.ref a)).bind fun w1 => (jgI μ 11 7 (.ref a)).bind fun x2 => (jC d 304 [w1, .int x2] μ).bind fun p3 => jR (d + 1) 159 47 [.ref a] (p3.1.toList ++ [s3, s2, (.ref s1), (.ref s0)]) p3.2 :=
  (l_aload_n (show gPG 159 36 = some (.aload_n 0) by decide +kernel) rfl jr_ref).trans <|
  (l_gR (show gPG 159 37 = some (.getfield 18) by decide +kernel) (kd := 11) (sl := 6) (tc := 1) (fin := 1) (z := 0) (by decide +kernel) (by decide +kernel) (by decide +kernel)).trans <| bd_cg fun w1 hw1 =>
  (l_aload_n (show gPG 159 40 = some (.aload_n 0) by decide +kernel) rfl jr_ref).trans <|
  (l_gI (show gPG 159 41 = some (.getfield 36) by decide +kernel) (kd := 11) (sl := 7) (tc := 0) (fin := 0) (z := 0) (by decide +kernel) (by decide +kernel) (by decide +kernel)).trans <| bd_cg fun x2 hx2 =>
  l_callS (u := 2) (as := [w1, .int x2]) (show gPG 159 44 = some (jinvI 2 67) by decide +kernel) (by decide) (cc := 304) (na := 2) (q4 := 0) (z := 12) (rest := [s3, s2, (.ref s1), (.ref s0)]) (by decide +kernel) (by decide +kernel)  rfl (show (2 : Nat) ≤ 6 by decide) rfl (csv hs3 (csv hs2 (csv jr_ref (csv jr_ref cs0)))) (by decide +kernel) (cai (cav (jr_gR hw1) ca0)) (fun e => absurd e (by decide))
theorem b159_47 (d : Nat) (μ : jM) (a : Nat) (s0 : Nat) (s1 : Nat) (s2 : Value) (s3 : Value) (s4 : Value) (hs2 : jisref s2 = true) (hs3 : jisref s3 = true) (hs4 : jisref s4 = true) : jR (d + 1) 159 47 [.ref a] [s4, s3, s2, (.ref s1), (.ref s0)] μ = (jgR μ 11 8 (.ref a)).bind fun w1 => (jgI μ 11 9 (.ref a)).bind fun x2 => (jC d 304 [w1, .int x2] μ).bind fun p3 => jR (d + 1) 159 58 [.ref a] (p3.1.toList ++ [s4, s3, s2, (.ref s1), (.ref s0)]) p3.2 :=
  (l_aload_n (show gPG 159 47 = some (.aload_n 0) by decide +kernel) rfl jr_ref).trans <|
  (l_gR (show gPG 159 48 = some (.getfield 21) by decide +kernel) (kd := 11) (sl := 8) (tc := 1) (fin := 1) (z := 0) (by decide +kernel) (by decide +kernel) (by decide +kernel)).trans <| bd_cg fun w1 hw1 =>
  (l_aload_n (show gPG 159 51 = some (.aload_n 0) by decide +kernel) rfl jr_ref).trans <|
  (l_gI (show gPG 159 52 = some (.getfield 39) by decide +kernel) (kd := 11) (sl := 9) (tc := 0) (fin := 0) (z := 0) (by decide +kernel) (by decide +kernel) (by decide +kernel)).trans <| bd_cg fun x2 hx2 =>
  l_callS (u := 2) (as := [w1, .int x2]) (show gPG 159 55 = some (jinvI 2 67) by decide +kernel) (by decide) (cc := 304) (na := 2) (q4 := 0) (z := 12) (rest := [s4, s3, s2, (.ref s1), (.ref s0)]) (by decide +kernel) (by decide +kernel)  rfl (show (2 : Nat) ≤ 7 by decide) rfl (csv hs4 (csv hs3 (csv hs2 (csv jr_ref (csv jr_ref cs0))))) (by decide +kernel) (cai (cav (jr_gR hw1) ca0)) (fun e => absurd e (by decide))
theorem b159_58 (d : Nat) (μ : jM) (u0 : Value) (s0 : Nat) (s1 : Nat) (s2 : Value) (s3 : Value) (s4 : Value) (s5 : Value) (hs2 : jisref s2 = true) (hs3 : jisref s3 = true) (hs4 : jisref s4 = true) (hs5 : jisref s5 = true) : jR (d + 1) 159 58 [u0] [s5, s4, s3, s2, (.ref s1), (.ref s0)] μ = (jC d 80 [(.ref s1), s2, s3, s4, s5] μ).bind fun p1 => jR (d + 1) 159 61 [u0] (p1.1.toList ++ [(.ref s0)]) p1.2 :=
  l_callS (u := 3) (as := [(.ref s1), s2, s3, s4, s5]) (show gPG 159 58 = some (jinvI 3 73) by decide +kernel) (by decide) (cc := 80) (na := 5) (q4 := 0) (z := 15) (rest := [(.ref s0)]) (by decide +kernel) (by decide +kernel)  rfl (show (5 : Nat) ≤ 6 by decide) rfl (csv jr_ref cs0) (by decide +kernel) (cav hs5 (cav hs4 (cav hs3 (cav hs2 (cav jr_ref ca0))))) (fun _ => ⟨_, _, rfl⟩)
theorem b159_61 (d : Nat) (μ : jM) (u0 : Value) (s0 : Nat) : jR d 159 61 [u0] [(.ref s0)] μ = some (some ((.ref s0)), μ) :=
  l_aret (show gPG 159 61 = some (.areturn) by decide +kernel) (by decide +kernel) jr_ref
