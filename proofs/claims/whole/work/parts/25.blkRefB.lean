/-! THE BLOCKS of GridMergerModel, laid by program (2) -/
-- Ref.copyGrid
theorem b207_0 (d : Nat) (μ : jM) (a : Nat) (i1 : Int32) (i2 : Int32) : jR d 207 0 [.ref a, .int i1, .int i2, .retAddr 0] [] μ = (jgR μ 13 0 (.ref a)).bind fun w1 => (jgR μ 13 0 (.ref a)).bind fun w2 => (jaI μ w2 i1).bind fun x3 => (jsI μ w1 i2 x3).bind fun m4 => jR d 207 14 [.ref a, .int i1, .int i2, .int 0] [] m4 :=
  (l_aload_n (show gPG 207 0 = some (.aload_n 0) by decide +kernel) rfl jr_ref).trans <|
  (l_gR (show gPG 207 1 = some (.getfield 11) by decide +kernel) (kd := 13) (sl := 0) (tc := 1) (fin := 1) (z := 0) (by decide +kernel) (by decide +kernel) (by decide +kernel)).trans <| bd_cg fun w1 hw1 =>
  (l_iload_n (show gPG 207 4 = some (.iload_n 2) by decide +kernel) rfl).trans <|
  (l_aload_n (show gPG 207 5 = some (.aload_n 0) by decide +kernel) rfl jr_ref).trans <|
  (l_gR (show gPG 207 6 = some (.getfield 11) by decide +kernel) (kd := 13) (sl := 0) (tc := 1) (fin := 1) (z := 0) (by decide +kernel) (by decide +kernel) (by decide +kernel)).trans <| bd_cg fun w2 hw2 =>
  (l_iload_n (show gPG 207 9 = some (.iload_n 1) by decide +kernel) rfl).trans <|
  (l_iald (show gPG 207 10 = some (.iaload) by decide +kernel) ).trans <| bd_cg fun x3 hx3 =>
  (l_iast (show gPG 207 11 = some (.iastore) by decide +kernel) ).trans <| bd_cg fun m4 hm4 =>
  (l_iconst (show gPG 207 12 = some (.iconst 0) by decide +kernel) (c := 0) (by decide +kernel)).trans <|
  l_istore_n (show gPG 207 13 = some (.istore_n 3) by decide +kernel) (ls := [.ref a, .int i1, .int i2, .retAddr 0]) (show (3 : Nat) < 4 by decide) (show _ = ([.ref a, .int i1, .int i2, .int 0] : List Value) from rfl)
theorem b207_14 (d : Nat) (μ : jM) (a : Nat) (i1 : Int32) (i2 : Int32) (i3 : Int32) : jR (d + 1) 207 14 [.ref a, .int i1, .int i2, .int i3] [] μ = (jgR μ 13 0 (.ref a)).bind fun w1 => (jaI μ w1 i1).bind fun x2 => (if i3 < x2 then (if jrecv μ 13 (.ref a) = true then (jC d 196 [.ref a, .int i1, .int i3, .int i2, .int i3] μ).bind fun p3 => jR (d + 1) 207 32 [.ref a, .int i1, .int i2, .int i3] (p3.1.toList ++ []) p3.2 else none) else some (none, μ)) :=
  (l_iload_n (show gPG 207 14 = some (.iload_n 3) by decide +kernel) rfl).trans <|
  (l_aload_n (show gPG 207 15 = some (.aload_n 0) by decide +kernel) rfl jr_ref).trans <|
  (l_gR (show gPG 207 16 = some (.getfield 11) by decide +kernel) (kd := 13) (sl := 0) (tc := 1) (fin := 1) (z := 0) (by decide +kernel) (by decide +kernel) (by decide +kernel)).trans <| bd_cg fun w1 hw1 =>
  (l_iload_n (show gPG 207 19 = some (.iload_n 1) by decide +kernel) rfl).trans <|
  (l_iald (show gPG 207 20 = some (.iaload) by decide +kernel) ).trans <| bd_cg fun x2 hx2 =>
  (l_cmp (show gPG 207 21 = some (.if_icmp .ge 17) by decide +kernel) (t := 38) (by decide +kernel)).trans <| jm_ge.trans <| ite_cg (
  (l_aload_n (show gPG 207 24 = some (.aload_n 0) by decide +kernel) rfl jr_ref).trans <|
  (l_iload_n (show gPG 207 25 = some (.iload_n 1) by decide +kernel) rfl).trans <|
  (l_iload_n (show gPG 207 26 = some (.iload_n 3) by decide +kernel) rfl).trans <|
  (l_iload_n (show gPG 207 27 = some (.iload_n 2) by decide +kernel) rfl).trans <|
  (l_iload_n (show gPG 207 28 = some (.iload_n 3) by decide +kernel) rfl).trans <|
  l_callV (u := 1) (v := .ref a) (as := [.int i1, .int i3, .int i2, .int i3]) (show gPG 207 29 = some (jinvI 1 140) by decide +kernel) (by decide) (cc := 196) (na := 5) (kd := 13) (q4 := 0) (z := 10) (rest := []) (by decide +kernel) (by decide +kernel)  rfl (show (5 : Nat) ≤ 5 by decide) rfl cs0 (by decide +kernel) (cai (cai (cai (cai (cav jr_ref ca0)))))) (
  l_ret (show gPG 207 38 = some (.return_) by decide +kernel) (by decide +kernel))
theorem b207_32 (d : Nat) (μ : jM) (a : Nat) (i1 : Int32) (i2 : Int32) (i3 : Int32) : jR d 207 32 [.ref a, .int i1, .int i2, .int i3] [] μ = jR d 207 14 [.ref a, .int i1, .int i2, .int (i3 + 1)] [] μ :=
  (l_iinc (show gPG 207 32 = some (.iinc 3 1) by decide +kernel) (c := 1) (by decide +kernel) rfl (show _ = ([.ref a, .int i1, .int i2, .int (i3 + 1)] : List Value) from rfl)).trans <|
  l_goto (show gPG 207 35 = some (.goto (-21)) by decide +kernel) (t := 14) (by decide +kernel)
-- Ref.told
theorem b208_0 (d : Nat) (μ : jM) (a : Nat) (i1 : Int32) (i2 : Int32) (i3 : Int32) (i4 : Int32) : jR (d + 1) 208 0 [.ref a, .int i1, .int i2, .int i3, .int i4, .retAddr 0, .retAddr 0] [] μ = (if jrecv μ 13 (.ref a) = true then (jC d 169 [.ref a, .int i1, .int i2, .int i3] μ).bind fun p1 => jR (d + 1) 208 7 [.ref a, .int i1, .int i2, .int i3, .int i4, .retAddr 0, .retAddr 0] (p1.1.toList ++ []) p1.2 else none) :=
  (l_aload_n (show gPG 208 0 = some (.aload_n 0) by decide +kernel) rfl jr_ref).trans <|
  (l_iload_n (show gPG 208 1 = some (.iload_n 1) by decide +kernel) rfl).trans <|
  (l_iload_n (show gPG 208 2 = some (.iload_n 2) by decide +kernel) rfl).trans <|
  (l_iload_n (show gPG 208 3 = some (.iload_n 3) by decide +kernel) rfl).trans <|
  l_callV (u := 1) (v := .ref a) (as := [.int i1, .int i2, .int i3]) (show gPG 208 4 = some (jinvI 1 285) by decide +kernel) (by decide) (cc := 169) (na := 4) (kd := 13) (q4 := 0) (z := 10) (rest := []) (by decide +kernel) (by decide +kernel)  rfl (show (4 : Nat) ≤ 4 by decide) rfl cs0 (by decide +kernel) (cai (cai (cai (cav jr_ref ca0))))
theorem b208_7 (d : Nat) (μ : jM) (a : Nat) (i1 : Int32) (i2 : Int32) (i3 : Int32) (i4 : Int32) (u5 : Value) (u6 : Value) (s0 : Int32) : jR (d + 1) 208 7 [.ref a, .int i1, .int i2, .int i3, .int i4, u5, u6] [.int s0] μ = (if s0 = 0 then jR (d + 1) 208 20 [.ref a, .int i1, .int i2, .int i3, .int i4, u5, u6] [] μ else (jC d 165 [.int i4, .int 0, .int 3] μ).bind fun p1 => jR (d + 1) 208 17 [.ref a, .int i1, .int i2, .int i3, .int i4, u5, u6] (p1.1.toList ++ []) p1.2) :=
  (l_cmp0 (show gPG 208 7 = some (.ifCond .eq 13) by decide +kernel) (t := 20) (by decide +kernel)).trans <| jm_eq.trans <| ite_cg (
  rfl) (
  (l_iload (show gPG 208 10 = some (.iload 4) by decide +kernel) rfl).trans <|
  (l_iconst (show gPG 208 12 = some (.iconst 0) by decide +kernel) (c := 0) (by decide +kernel)).trans <|
  (l_iconst (show gPG 208 13 = some (.iconst 3) by decide +kernel) (c := 3) (by decide +kernel)).trans <|
  l_callS (u := 2) (as := [.int i4, .int 0, .int 3]) (show gPG 208 14 = some (jinvI 2 125) by decide +kernel) (by decide) (cc := 165) (na := 3) (q4 := 0) (z := 12) (rest := []) (by decide +kernel) (by decide +kernel)  rfl (show (3 : Nat) ≤ 3 by decide) rfl cs0 (by decide +kernel) (cai (cai (cai ca0))) (fun e => absurd e (by decide)))
theorem b208_17 (d : Nat) (μ : jM) (a : Nat) (i1 : Int32) (i2 : Int32) (i3 : Int32) (i4 : Int32) (u5 : Value) (u6 : Value) (s0 : Int32) : jR (d + 1) 208 17 [.ref a, .int i1, .int i2, .int i3, .int i4, u5, u6] [.int s0] μ = (if s0 = 0 then jR (d + 1) 208 20 [.ref a, .int i1, .int i2, .int i3, .int i4, u5, u6] [] μ else (if i4 < 3 then (if i4 = 0 then (jgR μ 13 2 (.ref a)).bind fun w8 => (jaR μ w8 i1).bind fun w9 => (jaI μ w9 ((3 * i2) + i3)).bind fun x10 => jR (d + 1) 208 79 [.ref a, .int i1, .int i2, .int i3, .int i4, .int ((3 * i2) + i3), u6] [.int x10] μ else (if i4 = 1 then (jgR μ 13 4 (.ref a)).bind fun w5 => (jaR μ w5 i1).bind fun w6 => (jaI μ w6 ((3 * i2) + i3)).bind fun x7 => jR (d + 1) 208 79 [.ref a, .int i1, .int i2, .int i3, .int i4, .int ((3 * i2) + i3), u6] [.int x7] μ else (jgR μ 13 1 (.ref a)).bind fun w2 => (jaR μ w2 i1).bind fun w3 => (jaI μ w3 i2).bind fun x4 => jR (d + 1) 208 79 [.ref a, .int i1, .int i2, .int i3, .int i4, .int ((3 * i2) + i3), u6] [.int x4] μ)) else (if jrecv μ 13 (.ref a) = true then (jC d 209 [.ref a, .int i1] μ).bind fun p1 => jR (d + 1) 208 85 [.ref a, .int i1, .int i2, .int i3, .int i4, .int ((3 * i2) + i3), u6] (p1.1.toList ++ []) p1.2 else none))) :=
  (l_cmp0 (show gPG 208 17 = some (.ifCond .ne 6) by decide +kernel) (t := 23) (by decide +kernel)).trans <| jm_ne.trans <| ite_cg (
  rfl) (
  (l_iconst (show gPG 208 23 = some (.iconst 3) by decide +kernel) (c := 3) (by decide +kernel)).trans <|
  (l_iload_n (show gPG 208 24 = some (.iload_n 2) by decide +kernel) rfl).trans <|
  (l_imul (show gPG 208 25 = some (.imul) by decide +kernel) ).trans <|
  (l_iload_n (show gPG 208 26 = some (.iload_n 3) by decide +kernel) rfl).trans <|
  (l_iadd (show gPG 208 27 = some (.iadd) by decide +kernel) ).trans <|
  (l_istore (show gPG 208 28 = some (.istore 5) by decide +kernel) (ls := [.ref a, .int i1, .int i2, .int i3, .int i4, u5, u6]) (show (5 : Nat) < 7 by decide) (show _ = ([.ref a, .int i1, .int i2, .int i3, .int i4, .int ((3 * i2) + i3), u6] : List Value) from rfl)).trans <|
  (l_iload (show gPG 208 30 = some (.iload 4) by decide +kernel) rfl).trans <|
  (l_iconst (show gPG 208 32 = some (.iconst 3) by decide +kernel) (c := 3) (by decide +kernel)).trans <|
  (l_cmp (show gPG 208 33 = some (.if_icmp .ge 47) by decide +kernel) (t := 80) (by decide +kernel)).trans <| jm_ge.trans <| ite_cg (
  (l_iload (show gPG 208 36 = some (.iload 4) by decide +kernel) rfl).trans <|
  (l_cmp0 (show gPG 208 38 = some (.ifCond .ne 15) by decide +kernel) (t := 53) (by decide +kernel)).trans <| jm_ne.trans <| ite_cg (
  (l_aload_n (show gPG 208 41 = some (.aload_n 0) by decide +kernel) rfl jr_ref).trans <|
  (l_gR (show gPG 208 42 = some (.getfield 20) by decide +kernel) (kd := 13) (sl := 2) (tc := 1) (fin := 1) (z := 0) (by decide +kernel) (by decide +kernel) (by decide +kernel)).trans <| bd_cg fun w8 hw8 =>
  (l_iload_n (show gPG 208 45 = some (.iload_n 1) by decide +kernel) rfl).trans <|
  (l_aald (show gPG 208 46 = some (.aaload) by decide +kernel) ).trans <| bd_cg fun w9 hw9 =>
  (l_iload (show gPG 208 47 = some (.iload 5) by decide +kernel) rfl).trans <|
  (l_iald (show gPG 208 49 = some (.iaload) by decide +kernel) ).trans <| bd_cg fun x10 hx10 =>
  l_goto (show gPG 208 50 = some (.goto 29) by decide +kernel) (t := 79) (by decide +kernel)) (
  (l_iload (show gPG 208 53 = some (.iload 4) by decide +kernel) rfl).trans <|
  (l_iconst (show gPG 208 55 = some (.iconst 1) by decide +kernel) (c := 1) (by decide +kernel)).trans <|
  (l_cmp (show gPG 208 56 = some (.if_icmp .ne 15) by decide +kernel) (t := 71) (by decide +kernel)).trans <| jm_ne.trans <| ite_cg (
  (l_aload_n (show gPG 208 59 = some (.aload_n 0) by decide +kernel) rfl jr_ref).trans <|
  (l_gR (show gPG 208 60 = some (.getfield 26) by decide +kernel) (kd := 13) (sl := 4) (tc := 1) (fin := 1) (z := 0) (by decide +kernel) (by decide +kernel) (by decide +kernel)).trans <| bd_cg fun w5 hw5 =>
  (l_iload_n (show gPG 208 63 = some (.iload_n 1) by decide +kernel) rfl).trans <|
  (l_aald (show gPG 208 64 = some (.aaload) by decide +kernel) ).trans <| bd_cg fun w6 hw6 =>
  (l_iload (show gPG 208 65 = some (.iload 5) by decide +kernel) rfl).trans <|
  (l_iald (show gPG 208 67 = some (.iaload) by decide +kernel) ).trans <| bd_cg fun x7 hx7 =>
  l_goto (show gPG 208 68 = some (.goto 11) by decide +kernel) (t := 79) (by decide +kernel)) (
  (l_aload_n (show gPG 208 71 = some (.aload_n 0) by decide +kernel) rfl jr_ref).trans <|
  (l_gR (show gPG 208 72 = some (.getfield 17) by decide +kernel) (kd := 13) (sl := 1) (tc := 1) (fin := 1) (z := 0) (by decide +kernel) (by decide +kernel) (by decide +kernel)).trans <| bd_cg fun w2 hw2 =>
  (l_iload_n (show gPG 208 75 = some (.iload_n 1) by decide +kernel) rfl).trans <|
  (l_aald (show gPG 208 76 = some (.aaload) by decide +kernel) ).trans <| bd_cg fun w3 hw3 =>
  (l_iload_n (show gPG 208 77 = some (.iload_n 2) by decide +kernel) rfl).trans <|
  (l_iald (show gPG 208 78 = some (.iaload) by decide +kernel) ).trans <| bd_cg fun x4 hx4 =>
  rfl))) (
  (l_aload_n (show gPG 208 80 = some (.aload_n 0) by decide +kernel) rfl jr_ref).trans <|
  (l_iload_n (show gPG 208 81 = some (.iload_n 1) by decide +kernel) rfl).trans <|
  l_callV (u := 1) (v := .ref a) (as := [.int i1]) (show gPG 208 82 = some (jinvI 1 369) by decide +kernel) (by decide) (cc := 209) (na := 2) (kd := 13) (q4 := 0) (z := 10) (rest := []) (by decide +kernel) (by decide +kernel)  rfl (show (2 : Nat) ≤ 2 by decide) rfl cs0 (by decide +kernel) (cai (cav jr_ref ca0))))
theorem b208_20 (d : Nat) (μ : jM) (u0 : Value) (u1 : Value) (u2 : Value) (u3 : Value) (u4 : Value) (u5 : Value) (u6 : Value) : jR d 208 20 [u0, u1, u2, u3, u4, u5, u6] [] μ = some (some (.int (-2)), μ) :=
  (l_bipush (show gPG 208 20 = some (.bipush (-2)) by decide +kernel) (c := (-2)) (by decide +kernel)).trans <|
  l_iret1 (show gPG 208 22 = some (.ireturn) by decide +kernel) (by decide +kernel)
theorem b208_79 (d : Nat) (μ : jM) (u0 : Value) (u1 : Value) (u2 : Value) (u3 : Value) (u4 : Value) (u5 : Value) (u6 : Value) (s0 : Int32) : jR d 208 79 [u0, u1, u2, u3, u4, u5, u6] [.int s0] μ = some (some (.int s0), μ) :=
  l_iret1 (show gPG 208 79 = some (.ireturn) by decide +kernel) (by decide +kernel)
theorem b208_85 (d : Nat) (μ : jM) (a : Nat) (u1 : Value) (u2 : Value) (u3 : Value) (u4 : Value) (i5 : Int32) (u6 : Value) : jR (d + 1) 208 85 [.ref a, u1, u2, u3, u4, .int i5, u6] [] μ = (jpI μ 13 33 0 (.ref a) 0).bind fun m1 => (if jrecv m1 13 (.ref a) = true then (jC d 210 [.ref a, .int i5] m1).bind fun p2 => jR (d + 1) 208 96 [.ref a, u1, u2, u3, u4, .int i5, u6] (p2.1.toList ++ []) p2.2 else none) :=
  (l_aload_n (show gPG 208 85 = some (.aload_n 0) by decide +kernel) rfl jr_ref).trans <|
  (l_iconst (show gPG 208 86 = some (.iconst 0) by decide +kernel) (c := 0) (by decide +kernel)).trans <|
  (l_pI (show gPG 208 87 = some (.putfield 333) by decide +kernel) (kd := 13) (sl := 33) (tc := 0) (fin := 0) (z := 0) (by decide +kernel) (by decide +kernel) (by decide +kernel)).trans <| bd_cg fun m1 hm1 =>
  (l_aload_n (show gPG 208 90 = some (.aload_n 0) by decide +kernel) rfl jr_ref).trans <|
  (l_iload (show gPG 208 91 = some (.iload 5) by decide +kernel) rfl).trans <|
  l_callV (u := 1) (v := .ref a) (as := [.int i5]) (show gPG 208 93 = some (jinvI 1 363) by decide +kernel) (by decide) (cc := 210) (na := 2) (kd := 13) (q4 := 0) (z := 10) (rest := []) (by decide +kernel) (by decide +kernel)  rfl (show (2 : Nat) ≤ 2 by decide) rfl cs0 (by decide +kernel) (cai (cav jr_ref ca0))
theorem b208_96 (d : Nat) (μ : jM) (a : Nat) (u1 : Value) (u2 : Value) (u3 : Value) (u4 : Value) (u5 : Value) (u6 : Value) (s0 : Int32) : jR d 208 96 [.ref a, u1, u2, u3, u4, u5, u6] [.int s0] μ = (jgI μ 13 33 (.ref a)).bind fun x1 => some (some (.int x1), μ) :=
  (l_istore (show gPG 208 96 = some (.istore 6) by decide +kernel) (ls := [.ref a, u1, u2, u3, u4, u5, u6]) (show (6 : Nat) < 7 by decide) (show _ = ([.ref a, u1, u2, u3, u4, u5, .int s0] : List Value) from rfl)).trans <|
  (l_aload_n (show gPG 208 98 = some (.aload_n 0) by decide +kernel) rfl jr_ref).trans <|
  (l_gI (show gPG 208 99 = some (.getfield 333) by decide +kernel) (kd := 13) (sl := 33) (tc := 0) (fin := 0) (z := 0) (by decide +kernel) (by decide +kernel) (by decide +kernel)).trans <| bd_cg fun x1 hx1 =>
  l_iret1 (show gPG 208 102 = some (.ireturn) by decide +kernel) (by decide +kernel)
-- Ref.asksAnew
theorem b209_0 (d : Nat) (μ : jM) (a : Nat) (i1 : Int32) : jR d 209 0 [.ref a, .int i1, .retAddr 0] [] μ = (jpI μ 13 31 0 (.ref a) i1).bind fun m1 => jR d 209 7 [.ref a, .int i1, .int 0] [] m1 :=
  (l_aload_n (show gPG 209 0 = some (.aload_n 0) by decide +kernel) rfl jr_ref).trans <|
  (l_iload_n (show gPG 209 1 = some (.iload_n 1) by decide +kernel) rfl).trans <|
  (l_pI (show gPG 209 2 = some (.putfield 330) by decide +kernel) (kd := 13) (sl := 31) (tc := 0) (fin := 0) (z := 0) (by decide +kernel) (by decide +kernel) (by decide +kernel)).trans <| bd_cg fun m1 hm1 =>
  (l_iconst (show gPG 209 5 = some (.iconst 0) by decide +kernel) (c := 0) (by decide +kernel)).trans <|
  l_istore_n (show gPG 209 6 = some (.istore_n 2) by decide +kernel) (ls := [.ref a, .int i1, .retAddr 0]) (show (2 : Nat) < 3 by decide) (show _ = ([.ref a, .int i1, .int 0] : List Value) from rfl)
theorem b209_7 (d : Nat) (μ : jM) (a : Nat) (u1 : Value) (i2 : Int32) : jR d 209 7 [.ref a, u1, .int i2] [] μ = (if i2 < 24 then (jgR μ 13 29 (.ref a)).bind fun w1 => (jsB μ w1 i2 0).bind fun m2 => (jgR m2 13 30 (.ref a)).bind fun w3 => (jsB m2 w3 i2 0).bind fun m4 => jR d 209 7 [.ref a, u1, .int (i2 + 1)] [] m4 else some (none, μ)) :=
  (l_iload_n (show gPG 209 7 = some (.iload_n 2) by decide +kernel) rfl).trans <|
  (l_bipush (show gPG 209 8 = some (.bipush 24) by decide +kernel) (c := 24) (by decide +kernel)).trans <|
  (l_cmp (show gPG 209 10 = some (.if_icmp .ge 23) by decide +kernel) (t := 33) (by decide +kernel)).trans <| jm_ge.trans <| ite_cg (
  (l_aload_n (show gPG 209 13 = some (.aload_n 0) by decide +kernel) rfl jr_ref).trans <|
  (l_gR (show gPG 209 14 = some (.getfield 72) by decide +kernel) (kd := 13) (sl := 29) (tc := 1) (fin := 1) (z := 0) (by decide +kernel) (by decide +kernel) (by decide +kernel)).trans <| bd_cg fun w1 hw1 =>
  (l_iload_n (show gPG 209 17 = some (.iload_n 2) by decide +kernel) rfl).trans <|
  (l_iconst (show gPG 209 18 = some (.iconst 0) by decide +kernel) (c := 0) (by decide +kernel)).trans <|
  (l_bast (show gPG 209 19 = some (.bastore) by decide +kernel) ).trans <| bd_cg fun m2 hm2 =>
  (l_aload_n (show gPG 209 20 = some (.aload_n 0) by decide +kernel) rfl jr_ref).trans <|
  (l_gR (show gPG 209 21 = some (.getfield 76) by decide +kernel) (kd := 13) (sl := 30) (tc := 1) (fin := 1) (z := 0) (by decide +kernel) (by decide +kernel) (by decide +kernel)).trans <| bd_cg fun w3 hw3 =>
  (l_iload_n (show gPG 209 24 = some (.iload_n 2) by decide +kernel) rfl).trans <|
  (l_iconst (show gPG 209 25 = some (.iconst 0) by decide +kernel) (c := 0) (by decide +kernel)).trans <|
  (l_bast (show gPG 209 26 = some (.bastore) by decide +kernel) ).trans <| bd_cg fun m4 hm4 =>
  (l_iinc (show gPG 209 27 = some (.iinc 2 1) by decide +kernel) (c := 1) (by decide +kernel) rfl (show _ = ([.ref a, u1, .int (i2 + 1)] : List Value) from rfl)).trans <|
  l_goto (show gPG 209 30 = some (.goto (-23)) by decide +kernel) (t := 7) (by decide +kernel)) (
  l_ret (show gPG 209 33 = some (.return_) by decide +kernel) (by decide +kernel))
-- Ref.valueOf
theorem b210_0 (d : Nat) (μ : jM) (a : Nat) (i1 : Int32) : jR (d + 1) 210 0 [.ref a, .int i1] [] μ = (jgR μ 13 30 (.ref a)).bind fun w1 => (jaB μ w1 i1).bind fun x2 => (if x2 = 0 then (jgR μ 13 29 (.ref a)).bind fun w3 => (jaB μ w3 i1).bind fun x4 => (if x4 = 0 then (if jrecv μ 13 (.ref a) = true then (jC d 211 [.ref a, .int i1] μ).bind fun p5 => jR (d + 1) 210 31 [.ref a, .int i1] (p5.1.toList ++ []) p5.2 else none) else jR (d + 1) 210 31 [.ref a, .int i1] [] μ) else (jpI μ 13 33 0 (.ref a) (-6)).bind fun m6 => some (some (.int 0), m6)) :=
  (l_aload_n (show gPG 210 0 = some (.aload_n 0) by decide +kernel) rfl jr_ref).trans <|
  (l_gR (show gPG 210 1 = some (.getfield 76) by decide +kernel) (kd := 13) (sl := 30) (tc := 1) (fin := 1) (z := 0) (by decide +kernel) (by decide +kernel) (by decide +kernel)).trans <| bd_cg fun w1 hw1 =>
  (l_iload_n (show gPG 210 4 = some (.iload_n 1) by decide +kernel) rfl).trans <|
  (l_bald (show gPG 210 5 = some (.baload) by decide +kernel) ).trans <| bd_cg fun x2 hx2 =>
  (l_cmp0 (show gPG 210 6 = some (.ifCond .eq 11) by decide +kernel) (t := 17) (by decide +kernel)).trans <| jm_eq.trans <| ite_cg (
  (l_aload_n (show gPG 210 17 = some (.aload_n 0) by decide +kernel) rfl jr_ref).trans <|
  (l_gR (show gPG 210 18 = some (.getfield 72) by decide +kernel) (kd := 13) (sl := 29) (tc := 1) (fin := 1) (z := 0) (by decide +kernel) (by decide +kernel) (by decide +kernel)).trans <| bd_cg fun w3 hw3 =>
  (l_iload_n (show gPG 210 21 = some (.iload_n 1) by decide +kernel) rfl).trans <|
  (l_bald (show gPG 210 22 = some (.baload) by decide +kernel) ).trans <| bd_cg fun x4 hx4 =>
  (l_cmp0 (show gPG 210 23 = some (.ifCond .ne 8) by decide +kernel) (t := 31) (by decide +kernel)).trans <| jm_ne.trans <| ite_cg (
  (l_aload_n (show gPG 210 26 = some (.aload_n 0) by decide +kernel) rfl jr_ref).trans <|
  (l_iload_n (show gPG 210 27 = some (.iload_n 1) by decide +kernel) rfl).trans <|
  l_callV (u := 1) (v := .ref a) (as := [.int i1]) (show gPG 210 28 = some (jinvI 1 336) by decide +kernel) (by decide) (cc := 211) (na := 2) (kd := 13) (q4 := 0) (z := 10) (rest := []) (by decide +kernel) (by decide +kernel)  rfl (show (2 : Nat) ≤ 2 by decide) rfl cs0 (by decide +kernel) (cai (cav jr_ref ca0))) (
  rfl)) (
  (l_aload_n (show gPG 210 9 = some (.aload_n 0) by decide +kernel) rfl jr_ref).trans <|
  (l_bipush (show gPG 210 10 = some (.bipush (-6)) by decide +kernel) (c := (-6)) (by decide +kernel)).trans <|
  (l_pI (show gPG 210 12 = some (.putfield 333) by decide +kernel) (kd := 13) (sl := 33) (tc := 0) (fin := 0) (z := 0) (by decide +kernel) (by decide +kernel) (by decide +kernel)).trans <| bd_cg fun m6 hm6 =>
  (l_iconst (show gPG 210 15 = some (.iconst 0) by decide +kernel) (c := 0) (by decide +kernel)).trans <|
  l_iret1 (show gPG 210 16 = some (.ireturn) by decide +kernel) (by decide +kernel))
theorem b210_31 (d : Nat) (μ : jM) (a : Nat) (i1 : Int32) : jR d 210 31 [.ref a, .int i1] [] μ = (jgR μ 13 28 (.ref a)).bind fun w1 => (jaI μ w1 i1).bind fun x2 => (jpI μ 13 33 0 (.ref a) x2).bind fun m3 => (jgR m3 13 27 (.ref a)).bind fun w4 => (jaI m3 w4 i1).bind fun x5 => some (some (.int x5), m3) :=
  (l_aload_n (show gPG 210 31 = some (.aload_n 0) by decide +kernel) rfl jr_ref).trans <|
  (l_aload_n (show gPG 210 32 = some (.aload_n 0) by decide +kernel) rfl jr_ref).trans <|
  (l_gR (show gPG 210 33 = some (.getfield 69) by decide +kernel) (kd := 13) (sl := 28) (tc := 1) (fin := 1) (z := 0) (by decide +kernel) (by decide +kernel) (by decide +kernel)).trans <| bd_cg fun w1 hw1 =>
  (l_iload_n (show gPG 210 36 = some (.iload_n 1) by decide +kernel) rfl).trans <|
  (l_iald (show gPG 210 37 = some (.iaload) by decide +kernel) ).trans <| bd_cg fun x2 hx2 =>
  (l_pI (show gPG 210 38 = some (.putfield 333) by decide +kernel) (kd := 13) (sl := 33) (tc := 0) (fin := 0) (z := 0) (by decide +kernel) (by decide +kernel) (by decide +kernel)).trans <| bd_cg fun m3 hm3 =>
  (l_aload_n (show gPG 210 41 = some (.aload_n 0) by decide +kernel) rfl jr_ref).trans <|
  (l_gR (show gPG 210 42 = some (.getfield 66) by decide +kernel) (kd := 13) (sl := 27) (tc := 1) (fin := 1) (z := 0) (by decide +kernel) (by decide +kernel) (by decide +kernel)).trans <| bd_cg fun w4 hw4 =>
  (l_iload_n (show gPG 210 45 = some (.iload_n 1) by decide +kernel) rfl).trans <|
  (l_iald (show gPG 210 46 = some (.iaload) by decide +kernel) ).trans <| bd_cg fun x5 hx5 =>
  l_iret1 (show gPG 210 47 = some (.ireturn) by decide +kernel) (by decide +kernel)
-- Ref.tellsCell
theorem b211_0 (d : Nat) (μ : jM) (a : Nat) (i1 : Int32) : jR (d + 1) 211 0 [.ref a, .int i1, .retAddr 0, .retAddr 0, .retAddr 0] [] μ = (jgR μ 13 5 (.ref a)).bind fun w1 => (jgI μ 13 31 (.ref a)).bind fun x2 => (jaR μ w1 x2).bind fun w3 => (jaR μ w3 i1).bind fun w4 => (jgR μ 13 28 (.ref a)).bind fun w5 => (jsI μ w5 i1 0).bind fun m6 => (jgR m6 13 27 (.ref a)).bind fun w7 => (jgR m6 13 3 (.ref a)).bind fun w8 => (jgI m6 13 31 (.ref a)).bind fun x9 => (jaR m6 w8 x9).bind fun w10 => (jaI m6 w10 i1).bind fun x11 => (jsI m6 w7 i1 x11).bind fun m12 => (jgR m12 13 2 (.ref a)).bind fun w13 => (jgI m12 13 31 (.ref a)).bind fun x14 => (jaR m12 w13 x14).bind fun w15 => (jaI m12 w15 i1).bind fun x16 => (if x16 = 2 then (jgR m12 13 30 (.ref a)).bind fun w17 => (jsB m12 w17 i1 1).bind fun m18 => (jgR m18 13 34 (.ref a)).bind fun w19 => (jgI m18 13 32 (.ref a)).bind fun x20 => (jpR m18 13 34 (.ref a) w4).bind fun m21 => (jpI m21 13 32 0 (.ref a) 0).bind fun m22 => (jpI m22 13 33 0 (.ref a) 0).bind fun m23 => (jgR m23 13 27 (.ref a)).bind fun w24 => (if jrecv m23 13 (.ref a) = true then (jC d 212 [.ref a] m23).bind fun p25 => jR (d + 1) 211 93 [.ref a, .int i1, w4, w19, .int x20] (p25.1.toList ++ [.int i1, w24]) p25.2 else none) else jR (d + 1) 211 122 [.ref a, .int i1, w4, .retAddr 0, .retAddr 0] [] m12) :=
  (l_aload_n (show gPG 211 0 = some (.aload_n 0) by decide +kernel) rfl jr_ref).trans <|
  (l_gR (show gPG 211 1 = some (.getfield 31) by decide +kernel) (kd := 13) (sl := 5) (tc := 1) (fin := 1) (z := 0) (by decide +kernel) (by decide +kernel) (by decide +kernel)).trans <| bd_cg fun w1 hw1 =>
  (l_aload_n (show gPG 211 4 = some (.aload_n 0) by decide +kernel) rfl jr_ref).trans <|
  (l_gI (show gPG 211 5 = some (.getfield 330) by decide +kernel) (kd := 13) (sl := 31) (tc := 0) (fin := 0) (z := 0) (by decide +kernel) (by decide +kernel) (by decide +kernel)).trans <| bd_cg fun x2 hx2 =>
  (l_aald (show gPG 211 8 = some (.aaload) by decide +kernel) ).trans <| bd_cg fun w3 hw3 =>
  (l_iload_n (show gPG 211 9 = some (.iload_n 1) by decide +kernel) rfl).trans <|
  (l_aald (show gPG 211 10 = some (.aaload) by decide +kernel) ).trans <| bd_cg fun w4 hw4 =>
  (l_astore_n (show gPG 211 11 = some (.astore_n 2) by decide +kernel) (ls := [.ref a, .int i1, .retAddr 0, .retAddr 0, .retAddr 0]) (jr_aR hw4) (show (2 : Nat) < 5 by decide) (show _ = ([.ref a, .int i1, w4, .retAddr 0, .retAddr 0] : List Value) from rfl)).trans <|
  (l_aload_n (show gPG 211 12 = some (.aload_n 0) by decide +kernel) rfl jr_ref).trans <|
  (l_gR (show gPG 211 13 = some (.getfield 69) by decide +kernel) (kd := 13) (sl := 28) (tc := 1) (fin := 1) (z := 0) (by decide +kernel) (by decide +kernel) (by decide +kernel)).trans <| bd_cg fun w5 hw5 =>
  (l_iload_n (show gPG 211 16 = some (.iload_n 1) by decide +kernel) rfl).trans <|
  (l_iconst (show gPG 211 17 = some (.iconst 0) by decide +kernel) (c := 0) (by decide +kernel)).trans <|
  (l_iast (show gPG 211 18 = some (.iastore) by decide +kernel) ).trans <| bd_cg fun m6 hm6 =>
  (l_aload_n (show gPG 211 19 = some (.aload_n 0) by decide +kernel) rfl jr_ref).trans <|
  (l_gR (show gPG 211 20 = some (.getfield 66) by decide +kernel) (kd := 13) (sl := 27) (tc := 1) (fin := 1) (z := 0) (by decide +kernel) (by decide +kernel) (by decide +kernel)).trans <| bd_cg fun w7 hw7 =>
  (l_iload_n (show gPG 211 23 = some (.iload_n 1) by decide +kernel) rfl).trans <|
  (l_aload_n (show gPG 211 24 = some (.aload_n 0) by decide +kernel) rfl jr_ref).trans <|
  (l_gR (show gPG 211 25 = some (.getfield 23) by decide +kernel) (kd := 13) (sl := 3) (tc := 1) (fin := 1) (z := 0) (by decide +kernel) (by decide +kernel) (by decide +kernel)).trans <| bd_cg fun w8 hw8 =>
  (l_aload_n (show gPG 211 28 = some (.aload_n 0) by decide +kernel) rfl jr_ref).trans <|
  (l_gI (show gPG 211 29 = some (.getfield 330) by decide +kernel) (kd := 13) (sl := 31) (tc := 0) (fin := 0) (z := 0) (by decide +kernel) (by decide +kernel) (by decide +kernel)).trans <| bd_cg fun x9 hx9 =>
  (l_aald (show gPG 211 32 = some (.aaload) by decide +kernel) ).trans <| bd_cg fun w10 hw10 =>
  (l_iload_n (show gPG 211 33 = some (.iload_n 1) by decide +kernel) rfl).trans <|
  (l_iald (show gPG 211 34 = some (.iaload) by decide +kernel) ).trans <| bd_cg fun x11 hx11 =>
  (l_iast (show gPG 211 35 = some (.iastore) by decide +kernel) ).trans <| bd_cg fun m12 hm12 =>
  (l_aload_n (show gPG 211 36 = some (.aload_n 0) by decide +kernel) rfl jr_ref).trans <|
  (l_gR (show gPG 211 37 = some (.getfield 20) by decide +kernel) (kd := 13) (sl := 2) (tc := 1) (fin := 1) (z := 0) (by decide +kernel) (by decide +kernel) (by decide +kernel)).trans <| bd_cg fun w13 hw13 =>
  (l_aload_n (show gPG 211 40 = some (.aload_n 0) by decide +kernel) rfl jr_ref).trans <|
  (l_gI (show gPG 211 41 = some (.getfield 330) by decide +kernel) (kd := 13) (sl := 31) (tc := 0) (fin := 0) (z := 0) (by decide +kernel) (by decide +kernel) (by decide +kernel)).trans <| bd_cg fun x14 hx14 =>
  (l_aald (show gPG 211 44 = some (.aaload) by decide +kernel) ).trans <| bd_cg fun w15 hw15 =>
  (l_iload_n (show gPG 211 45 = some (.iload_n 1) by decide +kernel) rfl).trans <|
  (l_iald (show gPG 211 46 = some (.iaload) by decide +kernel) ).trans <| bd_cg fun x16 hx16 =>
  (l_iconst (show gPG 211 47 = some (.iconst 2) by decide +kernel) (c := 2) (by decide +kernel)).trans <|
  (l_cmp (show gPG 211 48 = some (.if_icmp .ne 74) by decide +kernel) (t := 122) (by decide +kernel)).trans <| jm_ne.trans <| ite_cg (
  (l_aload_n (show gPG 211 51 = some (.aload_n 0) by decide +kernel) rfl jr_ref).trans <|
  (l_gR (show gPG 211 52 = some (.getfield 76) by decide +kernel) (kd := 13) (sl := 30) (tc := 1) (fin := 1) (z := 0) (by decide +kernel) (by decide +kernel) (by decide +kernel)).trans <| bd_cg fun w17 hw17 =>
  (l_iload_n (show gPG 211 55 = some (.iload_n 1) by decide +kernel) rfl).trans <|
  (l_iconst (show gPG 211 56 = some (.iconst 1) by decide +kernel) (c := 1) (by decide +kernel)).trans <|
  (l_bast (show gPG 211 57 = some (.bastore) by decide +kernel) ).trans <| bd_cg fun m18 hm18 =>
  (l_aload_n (show gPG 211 58 = some (.aload_n 0) by decide +kernel) rfl jr_ref).trans <|
  (l_gR (show gPG 211 59 = some (.getfield 339) by decide +kernel) (kd := 13) (sl := 34) (tc := 1) (fin := 0) (z := 0) (by decide +kernel) (by decide +kernel) (by decide +kernel)).trans <| bd_cg fun w19 hw19 =>
  (l_astore_n (show gPG 211 62 = some (.astore_n 3) by decide +kernel) (ls := [.ref a, .int i1, w4, .retAddr 0, .retAddr 0]) (jr_gR hw19) (show (3 : Nat) < 5 by decide) (show _ = ([.ref a, .int i1, w4, w19, .retAddr 0] : List Value) from rfl)).trans <|
  (l_aload_n (show gPG 211 63 = some (.aload_n 0) by decide +kernel) rfl jr_ref).trans <|
  (l_gI (show gPG 211 64 = some (.getfield 342) by decide +kernel) (kd := 13) (sl := 32) (tc := 0) (fin := 0) (z := 0) (by decide +kernel) (by decide +kernel) (by decide +kernel)).trans <| bd_cg fun x20 hx20 =>
  (l_istore (show gPG 211 67 = some (.istore 4) by decide +kernel) (ls := [.ref a, .int i1, w4, w19, .retAddr 0]) (show (4 : Nat) < 5 by decide) (show _ = ([.ref a, .int i1, w4, w19, .int x20] : List Value) from rfl)).trans <|
  (l_aload_n (show gPG 211 69 = some (.aload_n 0) by decide +kernel) rfl jr_ref).trans <|
  (l_aload_n (show gPG 211 70 = some (.aload_n 2) by decide +kernel) rfl (jr_aR hw4)).trans <|
  (l_pR (show gPG 211 71 = some (.putfield 339) by decide +kernel) (kd := 13) (sl := 34) (tc := 1) (fin := 0) (z := 0) (by decide +kernel) (by decide +kernel) (by decide +kernel) (jr_aR hw4)).trans <| bd_cg fun m21 hm21 =>
  (l_aload_n (show gPG 211 74 = some (.aload_n 0) by decide +kernel) rfl jr_ref).trans <|
  (l_iconst (show gPG 211 75 = some (.iconst 0) by decide +kernel) (c := 0) (by decide +kernel)).trans <|
  (l_pI (show gPG 211 76 = some (.putfield 342) by decide +kernel) (kd := 13) (sl := 32) (tc := 0) (fin := 0) (z := 0) (by decide +kernel) (by decide +kernel) (by decide +kernel)).trans <| bd_cg fun m22 hm22 =>
  (l_aload_n (show gPG 211 79 = some (.aload_n 0) by decide +kernel) rfl jr_ref).trans <|
  (l_iconst (show gPG 211 80 = some (.iconst 0) by decide +kernel) (c := 0) (by decide +kernel)).trans <|
  (l_pI (show gPG 211 81 = some (.putfield 333) by decide +kernel) (kd := 13) (sl := 33) (tc := 0) (fin := 0) (z := 0) (by decide +kernel) (by decide +kernel) (by decide +kernel)).trans <| bd_cg fun m23 hm23 =>
  (l_aload_n (show gPG 211 84 = some (.aload_n 0) by decide +kernel) rfl jr_ref).trans <|
  (l_gR (show gPG 211 85 = some (.getfield 66) by decide +kernel) (kd := 13) (sl := 27) (tc := 1) (fin := 1) (z := 0) (by decide +kernel) (by decide +kernel) (by decide +kernel)).trans <| bd_cg fun w24 hw24 =>
  (l_iload_n (show gPG 211 88 = some (.iload_n 1) by decide +kernel) rfl).trans <|
  (l_aload_n (show gPG 211 89 = some (.aload_n 0) by decide +kernel) rfl jr_ref).trans <|
  l_callV (u := 1) (v := .ref a) (as := []) (show gPG 211 90 = some (jinvI 1 345) by decide +kernel) (by decide) (cc := 212) (na := 1) (kd := 13) (q4 := 0) (z := 10) (rest := [.int i1, w24]) (by decide +kernel) (by decide +kernel)  rfl (show (1 : Nat) ≤ 3 by decide) rfl (csi (csv (jr_gR hw24) cs0)) (by decide +kernel) (cav jr_ref ca0)) (
  rfl)
theorem b211_93 (d : Nat) (μ : jM) (a : Nat) (i1 : Int32) (u2 : Value) (r3 : Value) (i4 : Int32) (s0 : Value) (s1 : Int32) (s2 : Int32) (h3 : jisref r3 = true) (hs0 : jisref s0 = true) : jR d 211 93 [.ref a, .int i1, u2, r3, .int i4] [.int s2, .int s1, s0] μ = (jsI μ s0 s1 s2).bind fun m1 => (jgR m1 13 28 (.ref a)).bind fun w2 => (jgI m1 13 33 (.ref a)).bind fun x3 => (jsI m1 w2 i1 x3).bind fun m4 => (jpR m4 13 34 (.ref a) r3).bind fun m5 => (jpI m5 13 32 0 (.ref a) i4).bind fun m6 => (jgR m6 13 30 (.ref a)).bind fun w7 => (jsB m6 w7 i1 0).bind fun m8 => jR d 211 122 [.ref a, .int i1, u2, r3, .int i4] [] m8 :=
  (l_iast (show gPG 211 93 = some (.iastore) by decide +kernel) ).trans <| bd_cg fun m1 hm1 =>
  (l_aload_n (show gPG 211 94 = some (.aload_n 0) by decide +kernel) rfl jr_ref).trans <|
  (l_gR (show gPG 211 95 = some (.getfield 69) by decide +kernel) (kd := 13) (sl := 28) (tc := 1) (fin := 1) (z := 0) (by decide +kernel) (by decide +kernel) (by decide +kernel)).trans <| bd_cg fun w2 hw2 =>
  (l_iload_n (show gPG 211 98 = some (.iload_n 1) by decide +kernel) rfl).trans <|
  (l_aload_n (show gPG 211 99 = some (.aload_n 0) by decide +kernel) rfl jr_ref).trans <|
  (l_gI (show gPG 211 100 = some (.getfield 333) by decide +kernel) (kd := 13) (sl := 33) (tc := 0) (fin := 0) (z := 0) (by decide +kernel) (by decide +kernel) (by decide +kernel)).trans <| bd_cg fun x3 hx3 =>
  (l_iast (show gPG 211 103 = some (.iastore) by decide +kernel) ).trans <| bd_cg fun m4 hm4 =>
  (l_aload_n (show gPG 211 104 = some (.aload_n 0) by decide +kernel) rfl jr_ref).trans <|
  (l_aload_n (show gPG 211 105 = some (.aload_n 3) by decide +kernel) rfl h3).trans <|
  (l_pR (show gPG 211 106 = some (.putfield 339) by decide +kernel) (kd := 13) (sl := 34) (tc := 1) (fin := 0) (z := 0) (by decide +kernel) (by decide +kernel) (by decide +kernel) h3).trans <| bd_cg fun m5 hm5 =>
  (l_aload_n (show gPG 211 109 = some (.aload_n 0) by decide +kernel) rfl jr_ref).trans <|
  (l_iload (show gPG 211 110 = some (.iload 4) by decide +kernel) rfl).trans <|
  (l_pI (show gPG 211 112 = some (.putfield 342) by decide +kernel) (kd := 13) (sl := 32) (tc := 0) (fin := 0) (z := 0) (by decide +kernel) (by decide +kernel) (by decide +kernel)).trans <| bd_cg fun m6 hm6 =>
  (l_aload_n (show gPG 211 115 = some (.aload_n 0) by decide +kernel) rfl jr_ref).trans <|
  (l_gR (show gPG 211 116 = some (.getfield 76) by decide +kernel) (kd := 13) (sl := 30) (tc := 1) (fin := 1) (z := 0) (by decide +kernel) (by decide +kernel) (by decide +kernel)).trans <| bd_cg fun w7 hw7 =>
  (l_iload_n (show gPG 211 119 = some (.iload_n 1) by decide +kernel) rfl).trans <|
  (l_iconst (show gPG 211 120 = some (.iconst 0) by decide +kernel) (c := 0) (by decide +kernel)).trans <|
  (l_bast (show gPG 211 121 = some (.bastore) by decide +kernel) ).trans <| bd_cg fun m8 hm8 =>
  rfl
theorem b211_122 (d : Nat) (μ : jM) (a : Nat) (i1 : Int32) (u2 : Value) (u3 : Value) (u4 : Value) : jR d 211 122 [.ref a, .int i1, u2, u3, u4] [] μ = (jgR μ 13 29 (.ref a)).bind fun w1 => (jsB μ w1 i1 1).bind fun m2 => some (none, m2) :=
  (l_aload_n (show gPG 211 122 = some (.aload_n 0) by decide +kernel) rfl jr_ref).trans <|
  (l_gR (show gPG 211 123 = some (.getfield 72) by decide +kernel) (kd := 13) (sl := 29) (tc := 1) (fin := 1) (z := 0) (by decide +kernel) (by decide +kernel) (by decide +kernel)).trans <| bd_cg fun w1 hw1 =>
  (l_iload_n (show gPG 211 126 = some (.iload_n 1) by decide +kernel) rfl).trans <|
  (l_iconst (show gPG 211 127 = some (.iconst 1) by decide +kernel) (c := 1) (by decide +kernel)).trans <|
  (l_bast (show gPG 211 128 = some (.bastore) by decide +kernel) ).trans <| bd_cg fun m2 hm2 =>
  l_ret (show gPG 211 129 = some (.return_) by decide +kernel) (by decide +kernel)
-- Ref.sumNow
theorem b212_0 (d : Nat) (μ : jM) (a : Nat) : jR (d + 1) 212 0 [.ref a, .retAddr 0, .retAddr 0, .retAddr 0] [] μ = (if jrecv μ 13 (.ref a) = true then (jC d 213 [.ref a] μ).bind fun p1 => jR (d + 1) 212 4 [.ref a, .retAddr 0, .retAddr 0, .retAddr 0] (p1.1.toList ++ []) p1.2 else none) :=
  (l_aload_n (show gPG 212 0 = some (.aload_n 0) by decide +kernel) rfl jr_ref).trans <|
  l_callV (u := 1) (v := .ref a) (as := []) (show gPG 212 1 = some (jinvI 1 348) by decide +kernel) (by decide) (cc := 213) (na := 1) (kd := 13) (q4 := 0) (z := 10) (rest := []) (by decide +kernel) (by decide +kernel)  rfl (show (1 : Nat) ≤ 1 by decide) rfl cs0 (by decide +kernel) (cav jr_ref ca0)
theorem b212_4 (d : Nat) (μ : jM) (a : Nat) (u1 : Value) (u2 : Value) (u3 : Value) (s0 : Int32) : jR d 212 4 [.ref a, u1, u2, u3] [.int s0] μ = jR d 212 5 [.ref a, .int s0, u2, u3] [] μ :=
  l_istore_n (show gPG 212 4 = some (.istore_n 1) by decide +kernel) (ls := [.ref a, u1, u2, u3]) (show (1 : Nat) < 4 by decide) (show _ = ([.ref a, .int s0, u2, u3] : List Value) from rfl)
theorem b212_5 (d : Nat) (μ : jM) (a : Nat) (i1 : Int32) (u2 : Value) (u3 : Value) : jR (d + 1) 212 5 [.ref a, .int i1, u2, u3] [] μ = (if jrecv μ 13 (.ref a) = true then (jC d 217 [.ref a, .int 43] μ).bind fun p1 => jR (d + 1) 212 11 [.ref a, .int i1, u2, u3] (p1.1.toList ++ []) p1.2 else none) :=
  (l_aload_n (show gPG 212 5 = some (.aload_n 0) by decide +kernel) rfl jr_ref).trans <|
  (l_bipush (show gPG 212 6 = some (.bipush 43) by decide +kernel) (c := 43) (by decide +kernel)).trans <|
  l_callV (u := 1) (v := .ref a) (as := [.int 43]) (show gPG 212 8 = some (jinvI 1 351) by decide +kernel) (by decide) (cc := 217) (na := 2) (kd := 13) (q4 := 0) (z := 10) (rest := []) (by decide +kernel) (by decide +kernel)  rfl (show (2 : Nat) ≤ 2 by decide) rfl cs0 (by decide +kernel) (cai (cav jr_ref ca0))
theorem b212_11 (d : Nat) (μ : jM) (a : Nat) (i1 : Int32) (u2 : Value) (u3 : Value) (s0 : Int32) : jR (d + 1) 212 11 [.ref a, .int i1, u2, u3] [.int s0] μ = (if s0 = 0 then (if jrecv μ 13 (.ref a) = true then (jC d 217 [.ref a, .int 45] μ).bind fun p1 => jR (d + 1) 212 20 [.ref a, .int i1, u2, u3] (p1.1.toList ++ []) p1.2 else none) else jR (d + 1) 212 23 [.ref a, .int i1, u2, u3] [] μ) :=
  (l_cmp0 (show gPG 212 11 = some (.ifCond .ne 12) by decide +kernel) (t := 23) (by decide +kernel)).trans <| jm_ne.trans <| ite_cg (
  (l_aload_n (show gPG 212 14 = some (.aload_n 0) by decide +kernel) rfl jr_ref).trans <|
  (l_bipush (show gPG 212 15 = some (.bipush 45) by decide +kernel) (c := 45) (by decide +kernel)).trans <|
  l_callV (u := 1) (v := .ref a) (as := [.int 45]) (show gPG 212 17 = some (jinvI 1 351) by decide +kernel) (by decide) (cc := 217) (na := 2) (kd := 13) (q4 := 0) (z := 10) (rest := []) (by decide +kernel) (by decide +kernel)  rfl (show (2 : Nat) ≤ 2 by decide) rfl cs0 (by decide +kernel) (cai (cav jr_ref ca0))) (
  rfl)
theorem b212_20 (d : Nat) (μ : jM) (a : Nat) (i1 : Int32) (u2 : Value) (u3 : Value) (s0 : Int32) : jR d 212 20 [.ref a, .int i1, u2, u3] [.int s0] μ = (if s0 = 0 then some (some (.int i1), μ) else jR d 212 23 [.ref a, .int i1, u2, u3] [] μ) :=
  (l_cmp0 (show gPG 212 20 = some (.ifCond .eq 42) by decide +kernel) (t := 62) (by decide +kernel)).trans <| jm_eq.trans <| ite_cg (
  (l_iload_n (show gPG 212 62 = some (.iload_n 1) by decide +kernel) rfl).trans <|
  l_iret1 (show gPG 212 63 = some (.ireturn) by decide +kernel) (by decide +kernel)) (
  rfl)
theorem b212_23 (d : Nat) (μ : jM) (a : Nat) (i1 : Int32) (u2 : Value) (u3 : Value) : jR (d + 1) 212 23 [.ref a, .int i1, u2, u3] [] μ = (if jrecv μ 13 (.ref a) = true then (jC d 217 [.ref a, .int 43] μ).bind fun p1 => jR (d + 1) 212 29 [.ref a, .int i1, u2, u3] (p1.1.toList ++ []) p1.2 else none) :=
  (l_aload_n (show gPG 212 23 = some (.aload_n 0) by decide +kernel) rfl jr_ref).trans <|
  (l_bipush (show gPG 212 24 = some (.bipush 43) by decide +kernel) (c := 43) (by decide +kernel)).trans <|
  l_callV (u := 1) (v := .ref a) (as := [.int 43]) (show gPG 212 26 = some (jinvI 1 351) by decide +kernel) (by decide) (cc := 217) (na := 2) (kd := 13) (q4 := 0) (z := 10) (rest := []) (by decide +kernel) (by decide +kernel)  rfl (show (2 : Nat) ≤ 2 by decide) rfl cs0 (by decide +kernel) (cai (cav jr_ref ca0))
theorem b212_29 (d : Nat) (μ : jM) (a : Nat) (i1 : Int32) (u2 : Value) (u3 : Value) (s0 : Int32) : jR (d + 1) 212 29 [.ref a, .int i1, u2, u3] [.int s0] μ = (jgI μ 13 32 (.ref a)).bind fun x1 => (jpI μ 13 32 0 (.ref a) (x1 + 2)).bind fun m2 => (if jrecv m2 13 (.ref a) = true then (jC d 213 [.ref a] m2).bind fun p3 => jR (d + 1) 212 44 [.ref a, .int i1, .int s0, u3] (p3.1.toList ++ []) p3.2 else none) :=
  (l_istore_n (show gPG 212 29 = some (.istore_n 2) by decide +kernel) (ls := [.ref a, .int i1, u2, u3]) (show (2 : Nat) < 4 by decide) (show _ = ([.ref a, .int i1, .int s0, u3] : List Value) from rfl)).trans <|
  (l_aload_n (show gPG 212 30 = some (.aload_n 0) by decide +kernel) rfl jr_ref).trans <|
  (l_dup (show gPG 212 31 = some (.dup) by decide +kernel) (jr_cat1 jr_ref)).trans <|
  (l_gI (show gPG 212 32 = some (.getfield 342) by decide +kernel) (kd := 13) (sl := 32) (tc := 0) (fin := 0) (z := 0) (by decide +kernel) (by decide +kernel) (by decide +kernel)).trans <| bd_cg fun x1 hx1 =>
  (l_iconst (show gPG 212 35 = some (.iconst 2) by decide +kernel) (c := 2) (by decide +kernel)).trans <|
  (l_iadd (show gPG 212 36 = some (.iadd) by decide +kernel) ).trans <|
  (l_pI (show gPG 212 37 = some (.putfield 342) by decide +kernel) (kd := 13) (sl := 32) (tc := 0) (fin := 0) (z := 0) (by decide +kernel) (by decide +kernel) (by decide +kernel)).trans <| bd_cg fun m2 hm2 =>
  (l_aload_n (show gPG 212 40 = some (.aload_n 0) by decide +kernel) rfl jr_ref).trans <|
  l_callV (u := 1) (v := .ref a) (as := []) (show gPG 212 41 = some (jinvI 1 348) by decide +kernel) (by decide) (cc := 213) (na := 1) (kd := 13) (q4 := 0) (z := 10) (rest := []) (by decide +kernel) (by decide +kernel)  rfl (show (1 : Nat) ≤ 1 by decide) rfl cs0 (by decide +kernel) (cav jr_ref ca0)
theorem b212_44 (d : Nat) (μ : jM) (a : Nat) (i1 : Int32) (i2 : Int32) (u3 : Value) (s0 : Int32) : jR d 212 44 [.ref a, .int i1, .int i2, u3] [.int s0] μ = (if i2 = 0 then jR d 212 58 [.ref a, .int i1, .int i2, .int s0] [.int (i1 - s0)] μ else jR d 212 58 [.ref a, .int i1, .int i2, .int s0] [.int (i1 + s0)] μ) :=
  (l_istore_n (show gPG 212 44 = some (.istore_n 3) by decide +kernel) (ls := [.ref a, .int i1, .int i2, u3]) (show (3 : Nat) < 4 by decide) (show _ = ([.ref a, .int i1, .int i2, .int s0] : List Value) from rfl)).trans <|
  (l_iload_n (show gPG 212 45 = some (.iload_n 2) by decide +kernel) rfl).trans <|
  (l_cmp0 (show gPG 212 46 = some (.ifCond .eq 9) by decide +kernel) (t := 55) (by decide +kernel)).trans <| jm_eq.trans <| ite_cg (
  (l_iload_n (show gPG 212 55 = some (.iload_n 1) by decide +kernel) rfl).trans <|
  (l_iload_n (show gPG 212 56 = some (.iload_n 3) by decide +kernel) rfl).trans <|
  l_isub (show gPG 212 57 = some (.isub) by decide +kernel) ) (
  (l_iload_n (show gPG 212 49 = some (.iload_n 1) by decide +kernel) rfl).trans <|
  (l_iload_n (show gPG 212 50 = some (.iload_n 3) by decide +kernel) rfl).trans <|
  (l_iadd (show gPG 212 51 = some (.iadd) by decide +kernel) ).trans <|
  l_goto (show gPG 212 52 = some (.goto 6) by decide +kernel) (t := 58) (by decide +kernel))
theorem b212_58 (d : Nat) (μ : jM) (a : Nat) (u1 : Value) (u2 : Value) (u3 : Value) (s0 : Int32) : jR d 212 58 [.ref a, u1, u2, u3] [.int s0] μ = jR d 212 5 [.ref a, .int s0, u2, u3] [] μ :=
  (l_istore_n (show gPG 212 58 = some (.istore_n 1) by decide +kernel) (ls := [.ref a, u1, u2, u3]) (show (1 : Nat) < 4 by decide) (show _ = ([.ref a, .int s0, u2, u3] : List Value) from rfl)).trans <|
  l_goto (show gPG 212 59 = some (.goto (-54)) by decide +kernel) (t := 5) (by decide +kernel)
-- Ref.partNow
theorem b213_0 (d : Nat) (μ : jM) (a : Nat) : jR (d + 1) 213 0 [.ref a, .retAddr 0] [] μ = (if jrecv μ 13 (.ref a) = true then (jC d 214 [.ref a] μ).bind fun p1 => jR (d + 1) 213 4 [.ref a, .retAddr 0] (p1.1.toList ++ []) p1.2 else none) :=
  (l_aload_n (show gPG 213 0 = some (.aload_n 0) by decide +kernel) rfl jr_ref).trans <|
  l_callV (u := 1) (v := .ref a) (as := []) (show gPG 213 1 = some (jinvI 1 354) by decide +kernel) (by decide) (cc := 214) (na := 1) (kd := 13) (q4 := 0) (z := 10) (rest := []) (by decide +kernel) (by decide +kernel)  rfl (show (1 : Nat) ≤ 1 by decide) rfl cs0 (by decide +kernel) (cav jr_ref ca0)
theorem b213_4 (d : Nat) (μ : jM) (a : Nat) (u1 : Value) (s0 : Int32) : jR d 213 4 [.ref a, u1] [.int s0] μ = jR d 213 5 [.ref a, .int s0] [] μ :=
  l_istore_n (show gPG 213 4 = some (.istore_n 1) by decide +kernel) (ls := [.ref a, u1]) (show (1 : Nat) < 2 by decide) (show _ = ([.ref a, .int s0] : List Value) from rfl)
theorem b213_5 (d : Nat) (μ : jM) (a : Nat) (i1 : Int32) : jR (d + 1) 213 5 [.ref a, .int i1] [] μ = (if jrecv μ 13 (.ref a) = true then (jC d 217 [.ref a, .int 42] μ).bind fun p1 => jR (d + 1) 213 11 [.ref a, .int i1] (p1.1.toList ++ []) p1.2 else none) :=
  (l_aload_n (show gPG 213 5 = some (.aload_n 0) by decide +kernel) rfl jr_ref).trans <|
  (l_bipush (show gPG 213 6 = some (.bipush 42) by decide +kernel) (c := 42) (by decide +kernel)).trans <|
  l_callV (u := 1) (v := .ref a) (as := [.int 42]) (show gPG 213 8 = some (jinvI 1 351) by decide +kernel) (by decide) (cc := 217) (na := 2) (kd := 13) (q4 := 0) (z := 10) (rest := []) (by decide +kernel) (by decide +kernel)  rfl (show (2 : Nat) ≤ 2 by decide) rfl cs0 (by decide +kernel) (cai (cav jr_ref ca0))
theorem b213_11 (d : Nat) (μ : jM) (a : Nat) (i1 : Int32) (s0 : Int32) : jR (d + 1) 213 11 [.ref a, .int i1] [.int s0] μ = (if s0 = 0 then some (some (.int i1), μ) else (jgI μ 13 32 (.ref a)).bind fun x1 => (jpI μ 13 32 0 (.ref a) (x1 + 2)).bind fun m2 => (if jrecv m2 13 (.ref a) = true then (jC d 214 [.ref a] m2).bind fun p3 => jR (d + 1) 213 29 [.ref a, .int i1] (p3.1.toList ++ [.int i1]) p3.2 else none)) :=
  (l_cmp0 (show gPG 213 11 = some (.ifCond .eq 23) by decide +kernel) (t := 34) (by decide +kernel)).trans <| jm_eq.trans <| ite_cg (
  (l_iload_n (show gPG 213 34 = some (.iload_n 1) by decide +kernel) rfl).trans <|
  l_iret1 (show gPG 213 35 = some (.ireturn) by decide +kernel) (by decide +kernel)) (
  (l_aload_n (show gPG 213 14 = some (.aload_n 0) by decide +kernel) rfl jr_ref).trans <|
  (l_dup (show gPG 213 15 = some (.dup) by decide +kernel) (jr_cat1 jr_ref)).trans <|
  (l_gI (show gPG 213 16 = some (.getfield 342) by decide +kernel) (kd := 13) (sl := 32) (tc := 0) (fin := 0) (z := 0) (by decide +kernel) (by decide +kernel) (by decide +kernel)).trans <| bd_cg fun x1 hx1 =>
  (l_iconst (show gPG 213 19 = some (.iconst 2) by decide +kernel) (c := 2) (by decide +kernel)).trans <|
  (l_iadd (show gPG 213 20 = some (.iadd) by decide +kernel) ).trans <|
  (l_pI (show gPG 213 21 = some (.putfield 342) by decide +kernel) (kd := 13) (sl := 32) (tc := 0) (fin := 0) (z := 0) (by decide +kernel) (by decide +kernel) (by decide +kernel)).trans <| bd_cg fun m2 hm2 =>
  (l_iload_n (show gPG 213 24 = some (.iload_n 1) by decide +kernel) rfl).trans <|
  (l_aload_n (show gPG 213 25 = some (.aload_n 0) by decide +kernel) rfl jr_ref).trans <|
  l_callV (u := 1) (v := .ref a) (as := []) (show gPG 213 26 = some (jinvI 1 354) by decide +kernel) (by decide) (cc := 214) (na := 1) (kd := 13) (q4 := 0) (z := 10) (rest := [.int i1]) (by decide +kernel) (by decide +kernel)  rfl (show (1 : Nat) ≤ 2 by decide) rfl (csi cs0) (by decide +kernel) (cav jr_ref ca0))
theorem b213_29 (d : Nat) (μ : jM) (a : Nat) (u1 : Value) (s0 : Int32) (s1 : Int32) : jR d 213 29 [.ref a, u1] [.int s1, .int s0] μ = jR d 213 5 [.ref a, .int (s0 * s1)] [] μ :=
  (l_imul (show gPG 213 29 = some (.imul) by decide +kernel) ).trans <|
  (l_istore_n (show gPG 213 30 = some (.istore_n 1) by decide +kernel) (ls := [.ref a, u1]) (show (1 : Nat) < 2 by decide) (show _ = ([.ref a, .int (s0 * s1)] : List Value) from rfl)).trans <|
  l_goto (show gPG 213 31 = some (.goto (-26)) by decide +kernel) (t := 5) (by decide +kernel)
-- Ref.oneNow
theorem b214_0 (d : Nat) (μ : jM) (a : Nat) : jR (d + 1) 214 0 [.ref a, .retAddr 0, .retAddr 0, .retAddr 0] [] μ = (jgI μ 13 33 (.ref a)).bind fun x1 => (if x1 = 0 then (jgR μ 13 34 (.ref a)).bind fun w2 => (jgI μ 13 32 (.ref a)).bind fun x3 => (jaI μ w2 x3).bind fun x4 => (jgR μ 13 34 (.ref a)).bind fun w5 => (jgI μ 13 32 (.ref a)).bind fun x6 => (jaI μ w5 (x6 + 1)).bind fun x7 => (jgI μ 13 32 (.ref a)).bind fun x8 => (jpI μ 13 32 0 (.ref a) (x8 + 2)).bind fun m9 => (if x4 = 0 then some (some (.int x7), m9) else (if x4 = 2 then (if jrecv m9 13 (.ref a) = true then (jC d 215 [.ref a, .int x7] m9).bind fun p13 => jR (d + 1) 214 57 [.ref a, .int x4, .int x7, .retAddr 0] (p13.1.toList ++ []) p13.2 else none) else (if x4 = 3 then (if jrecv m9 13 (.ref a) = true then (jC d 216 [.ref a, .int x7] m9).bind fun p12 => jR (d + 1) 214 68 [.ref a, .int x4, .int x7, .retAddr 0] (p12.1.toList ++ []) p12.2 else none) else (if x7 = 45 then (if jrecv m9 13 (.ref a) = true then (jC d 214 [.ref a] m9).bind fun p11 => jR (d + 1) 214 79 [.ref a, .int x4, .int x7, .retAddr 0] (p11.1.toList ++ []) p11.2 else none) else (if jrecv m9 13 (.ref a) = true then (jC d 212 [.ref a] m9).bind fun p10 => jR (d + 1) 214 85 [.ref a, .int x4, .int x7, .retAddr 0] (p10.1.toList ++ []) p10.2 else none))))) else some (some (.int 0), μ)) :=
  (l_aload_n (show gPG 214 0 = some (.aload_n 0) by decide +kernel) rfl jr_ref).trans <|
  (l_gI (show gPG 214 1 = some (.getfield 333) by decide +kernel) (kd := 13) (sl := 33) (tc := 0) (fin := 0) (z := 0) (by decide +kernel) (by decide +kernel) (by decide +kernel)).trans <| bd_cg fun x1 hx1 =>
  (l_cmp0 (show gPG 214 4 = some (.ifCond .eq 5) by decide +kernel) (t := 9) (by decide +kernel)).trans <| jm_eq.trans <| ite_cg (
  (l_aload_n (show gPG 214 9 = some (.aload_n 0) by decide +kernel) rfl jr_ref).trans <|
  (l_gR (show gPG 214 10 = some (.getfield 339) by decide +kernel) (kd := 13) (sl := 34) (tc := 1) (fin := 0) (z := 0) (by decide +kernel) (by decide +kernel) (by decide +kernel)).trans <| bd_cg fun w2 hw2 =>
  (l_aload_n (show gPG 214 13 = some (.aload_n 0) by decide +kernel) rfl jr_ref).trans <|
  (l_gI (show gPG 214 14 = some (.getfield 342) by decide +kernel) (kd := 13) (sl := 32) (tc := 0) (fin := 0) (z := 0) (by decide +kernel) (by decide +kernel) (by decide +kernel)).trans <| bd_cg fun x3 hx3 =>
  (l_iald (show gPG 214 17 = some (.iaload) by decide +kernel) ).trans <| bd_cg fun x4 hx4 =>
  (l_istore_n (show gPG 214 18 = some (.istore_n 1) by decide +kernel) (ls := [.ref a, .retAddr 0, .retAddr 0, .retAddr 0]) (show (1 : Nat) < 4 by decide) (show _ = ([.ref a, .int x4, .retAddr 0, .retAddr 0] : List Value) from rfl)).trans <|
  (l_aload_n (show gPG 214 19 = some (.aload_n 0) by decide +kernel) rfl jr_ref).trans <|
  (l_gR (show gPG 214 20 = some (.getfield 339) by decide +kernel) (kd := 13) (sl := 34) (tc := 1) (fin := 0) (z := 0) (by decide +kernel) (by decide +kernel) (by decide +kernel)).trans <| bd_cg fun w5 hw5 =>
  (l_aload_n (show gPG 214 23 = some (.aload_n 0) by decide +kernel) rfl jr_ref).trans <|
  (l_gI (show gPG 214 24 = some (.getfield 342) by decide +kernel) (kd := 13) (sl := 32) (tc := 0) (fin := 0) (z := 0) (by decide +kernel) (by decide +kernel) (by decide +kernel)).trans <| bd_cg fun x6 hx6 =>
  (l_iconst (show gPG 214 27 = some (.iconst 1) by decide +kernel) (c := 1) (by decide +kernel)).trans <|
  (l_iadd (show gPG 214 28 = some (.iadd) by decide +kernel) ).trans <|
  (l_iald (show gPG 214 29 = some (.iaload) by decide +kernel) ).trans <| bd_cg fun x7 hx7 =>
  (l_istore_n (show gPG 214 30 = some (.istore_n 2) by decide +kernel) (ls := [.ref a, .int x4, .retAddr 0, .retAddr 0]) (show (2 : Nat) < 4 by decide) (show _ = ([.ref a, .int x4, .int x7, .retAddr 0] : List Value) from rfl)).trans <|
  (l_aload_n (show gPG 214 31 = some (.aload_n 0) by decide +kernel) rfl jr_ref).trans <|
  (l_dup (show gPG 214 32 = some (.dup) by decide +kernel) (jr_cat1 jr_ref)).trans <|
  (l_gI (show gPG 214 33 = some (.getfield 342) by decide +kernel) (kd := 13) (sl := 32) (tc := 0) (fin := 0) (z := 0) (by decide +kernel) (by decide +kernel) (by decide +kernel)).trans <| bd_cg fun x8 hx8 =>
  (l_iconst (show gPG 214 36 = some (.iconst 2) by decide +kernel) (c := 2) (by decide +kernel)).trans <|
  (l_iadd (show gPG 214 37 = some (.iadd) by decide +kernel) ).trans <|
  (l_pI (show gPG 214 38 = some (.putfield 342) by decide +kernel) (kd := 13) (sl := 32) (tc := 0) (fin := 0) (z := 0) (by decide +kernel) (by decide +kernel) (by decide +kernel)).trans <| bd_cg fun m9 hm9 =>
  (l_iload_n (show gPG 214 41 = some (.iload_n 1) by decide +kernel) rfl).trans <|
  (l_cmp0 (show gPG 214 42 = some (.ifCond .ne 5) by decide +kernel) (t := 47) (by decide +kernel)).trans <| jm_ne.trans <| ite_cg (
  (l_iload_n (show gPG 214 45 = some (.iload_n 2) by decide +kernel) rfl).trans <|
  l_iret1 (show gPG 214 46 = some (.ireturn) by decide +kernel) (by decide +kernel)) (
  (l_iload_n (show gPG 214 47 = some (.iload_n 1) by decide +kernel) rfl).trans <|
  (l_iconst (show gPG 214 48 = some (.iconst 2) by decide +kernel) (c := 2) (by decide +kernel)).trans <|
  (l_cmp (show gPG 214 49 = some (.if_icmp .ne 9) by decide +kernel) (t := 58) (by decide +kernel)).trans <| jm_ne.trans <| ite_cg (
  (l_aload_n (show gPG 214 52 = some (.aload_n 0) by decide +kernel) rfl jr_ref).trans <|
  (l_iload_n (show gPG 214 53 = some (.iload_n 2) by decide +kernel) rfl).trans <|
  l_callV (u := 1) (v := .ref a) (as := [.int x7]) (show gPG 214 54 = some (jinvI 1 357) by decide +kernel) (by decide) (cc := 215) (na := 2) (kd := 13) (q4 := 0) (z := 10) (rest := []) (by decide +kernel) (by decide +kernel)  rfl (show (2 : Nat) ≤ 2 by decide) rfl cs0 (by decide +kernel) (cai (cav jr_ref ca0))) (
  (l_iload_n (show gPG 214 58 = some (.iload_n 1) by decide +kernel) rfl).trans <|
  (l_iconst (show gPG 214 59 = some (.iconst 3) by decide +kernel) (c := 3) (by decide +kernel)).trans <|
  (l_cmp (show gPG 214 60 = some (.if_icmp .ne 9) by decide +kernel) (t := 69) (by decide +kernel)).trans <| jm_ne.trans <| ite_cg (
  (l_aload_n (show gPG 214 63 = some (.aload_n 0) by decide +kernel) rfl jr_ref).trans <|
  (l_iload_n (show gPG 214 64 = some (.iload_n 2) by decide +kernel) rfl).trans <|
  l_callV (u := 1) (v := .ref a) (as := [.int x7]) (show gPG 214 65 = some (jinvI 1 360) by decide +kernel) (by decide) (cc := 216) (na := 2) (kd := 13) (q4 := 0) (z := 10) (rest := []) (by decide +kernel) (by decide +kernel)  rfl (show (2 : Nat) ≤ 2 by decide) rfl cs0 (by decide +kernel) (cai (cav jr_ref ca0))) (
  (l_iload_n (show gPG 214 69 = some (.iload_n 2) by decide +kernel) rfl).trans <|
  (l_bipush (show gPG 214 70 = some (.bipush 45) by decide +kernel) (c := 45) (by decide +kernel)).trans <|
  (l_cmp (show gPG 214 72 = some (.if_icmp .ne 9) by decide +kernel) (t := 81) (by decide +kernel)).trans <| jm_ne.trans <| ite_cg (
  (l_aload_n (show gPG 214 75 = some (.aload_n 0) by decide +kernel) rfl jr_ref).trans <|
  l_callV (u := 1) (v := .ref a) (as := []) (show gPG 214 76 = some (jinvI 1 354) by decide +kernel) (by decide) (cc := 214) (na := 1) (kd := 13) (q4 := 0) (z := 10) (rest := []) (by decide +kernel) (by decide +kernel)  rfl (show (1 : Nat) ≤ 1 by decide) rfl cs0 (by decide +kernel) (cav jr_ref ca0)) (
  (l_aload_n (show gPG 214 81 = some (.aload_n 0) by decide +kernel) rfl jr_ref).trans <|
  l_callV (u := 1) (v := .ref a) (as := []) (show gPG 214 82 = some (jinvI 1 345) by decide +kernel) (by decide) (cc := 212) (na := 1) (kd := 13) (q4 := 0) (z := 10) (rest := []) (by decide +kernel) (by decide +kernel)  rfl (show (1 : Nat) ≤ 1 by decide) rfl cs0 (by decide +kernel) (cav jr_ref ca0)))))) (
  (l_iconst (show gPG 214 7 = some (.iconst 0) by decide +kernel) (c := 0) (by decide +kernel)).trans <|
  l_iret1 (show gPG 214 8 = some (.ireturn) by decide +kernel) (by decide +kernel))
theorem b214_57 (d : Nat) (μ : jM) (u0 : Value) (u1 : Value) (u2 : Value) (u3 : Value) (s0 : Int32) : jR d 214 57 [u0, u1, u2, u3] [.int s0] μ = some (some (.int s0), μ) :=
  l_iret1 (show gPG 214 57 = some (.ireturn) by decide +kernel) (by decide +kernel)
theorem b214_68 (d : Nat) (μ : jM) (u0 : Value) (u1 : Value) (u2 : Value) (u3 : Value) (s0 : Int32) : jR d 214 68 [u0, u1, u2, u3] [.int s0] μ = some (some (.int s0), μ) :=
  l_iret1 (show gPG 214 68 = some (.ireturn) by decide +kernel) (by decide +kernel)
theorem b214_79 (d : Nat) (μ : jM) (u0 : Value) (u1 : Value) (u2 : Value) (u3 : Value) (s0 : Int32) : jR d 214 79 [u0, u1, u2, u3] [.int s0] μ = some (some (.int (-s0)), μ) :=
  (l_ineg (show gPG 214 79 = some (.ineg) by decide +kernel) ).trans <|
  l_iret1 (show gPG 214 80 = some (.ireturn) by decide +kernel) (by decide +kernel)
theorem b214_85 (d : Nat) (μ : jM) (a : Nat) (u1 : Value) (u2 : Value) (u3 : Value) (s0 : Int32) : jR d 214 85 [.ref a, u1, u2, u3] [.int s0] μ = (jgI μ 13 32 (.ref a)).bind fun x1 => (jpI μ 13 32 0 (.ref a) (x1 + 2)).bind fun m2 => some (some (.int s0), m2) :=
  (l_istore_n (show gPG 214 85 = some (.istore_n 3) by decide +kernel) (ls := [.ref a, u1, u2, u3]) (show (3 : Nat) < 4 by decide) (show _ = ([.ref a, u1, u2, .int s0] : List Value) from rfl)).trans <|
  (l_aload_n (show gPG 214 86 = some (.aload_n 0) by decide +kernel) rfl jr_ref).trans <|
  (l_dup (show gPG 214 87 = some (.dup) by decide +kernel) (jr_cat1 jr_ref)).trans <|
  (l_gI (show gPG 214 88 = some (.getfield 342) by decide +kernel) (kd := 13) (sl := 32) (tc := 0) (fin := 0) (z := 0) (by decide +kernel) (by decide +kernel) (by decide +kernel)).trans <| bd_cg fun x1 hx1 =>
  (l_iconst (show gPG 214 91 = some (.iconst 2) by decide +kernel) (c := 2) (by decide +kernel)).trans <|
  (l_iadd (show gPG 214 92 = some (.iadd) by decide +kernel) ).trans <|
  (l_pI (show gPG 214 93 = some (.putfield 342) by decide +kernel) (kd := 13) (sl := 32) (tc := 0) (fin := 0) (z := 0) (by decide +kernel) (by decide +kernel) (by decide +kernel)).trans <| bd_cg fun m2 hm2 =>
  (l_iload_n (show gPG 214 96 = some (.iload_n 3) by decide +kernel) rfl).trans <|
  l_iret1 (show gPG 214 97 = some (.ireturn) by decide +kernel) (by decide +kernel)
-- Ref.rangeNow
theorem b215_0 (d : Nat) (μ : jM) (a : Nat) (i1 : Int32) : jR (d + 1) 215 0 [.ref a, .int i1, .retAddr 0, .retAddr 0, .retAddr 0, .retAddr 0, .retAddr 0, .retAddr 0, .retAddr 0, .retAddr 0, .retAddr 0, .retAddr 0, .retAddr 0, .retAddr 0] [] μ = (jgR μ 13 34 (.ref a)).bind fun w1 => (jgI μ 13 32 (.ref a)).bind fun x2 => (jaI μ w1 (x2 + 3)).bind fun x3 => (jgR μ 13 34 (.ref a)).bind fun w4 => (jgI μ 13 32 (.ref a)).bind fun x5 => (jaI μ w4 (x5 + 7)).bind fun x6 => (jgI μ 13 32 (.ref a)).bind fun x7 => (jpI μ 13 32 0 (.ref a) (x7 + 10)).bind fun m8 => (if x3 = 0 then jR (d + 1) 215 56 [.ref a, .int i1, .int x3, .int x6, .retAddr 0, .retAddr 0, .retAddr 0, .retAddr 0, .retAddr 0, .retAddr 0, .retAddr 0, .retAddr 0, .retAddr 0, .retAddr 0] [.int (-1)] m8 else (jgI m8 13 31 (.ref a)).bind fun x9 => (if jrecv m8 13 (.ref a) = true then (jC d 194 [.ref a, .int x9, .int (x3 / 8)] m8).bind fun p10 => jR (d + 1) 215 56 [.ref a, .int i1, .int x3, .int x6, .retAddr 0, .retAddr 0, .retAddr 0, .retAddr 0, .retAddr 0, .retAddr 0, .retAddr 0, .retAddr 0, .retAddr 0, .retAddr 0] (p10.1.toList ++ []) p10.2 else none)) :=
  (l_aload_n (show gPG 215 0 = some (.aload_n 0) by decide +kernel) rfl jr_ref).trans <|
  (l_gR (show gPG 215 1 = some (.getfield 339) by decide +kernel) (kd := 13) (sl := 34) (tc := 1) (fin := 0) (z := 0) (by decide +kernel) (by decide +kernel) (by decide +kernel)).trans <| bd_cg fun w1 hw1 =>
  (l_aload_n (show gPG 215 4 = some (.aload_n 0) by decide +kernel) rfl jr_ref).trans <|
  (l_gI (show gPG 215 5 = some (.getfield 342) by decide +kernel) (kd := 13) (sl := 32) (tc := 0) (fin := 0) (z := 0) (by decide +kernel) (by decide +kernel) (by decide +kernel)).trans <| bd_cg fun x2 hx2 =>
  (l_iconst (show gPG 215 8 = some (.iconst 3) by decide +kernel) (c := 3) (by decide +kernel)).trans <|
  (l_iadd (show gPG 215 9 = some (.iadd) by decide +kernel) ).trans <|
  (l_iald (show gPG 215 10 = some (.iaload) by decide +kernel) ).trans <| bd_cg fun x3 hx3 =>
  (l_istore_n (show gPG 215 11 = some (.istore_n 2) by decide +kernel) (ls := [.ref a, .int i1, .retAddr 0, .retAddr 0, .retAddr 0, .retAddr 0, .retAddr 0, .retAddr 0, .retAddr 0, .retAddr 0, .retAddr 0, .retAddr 0, .retAddr 0, .retAddr 0]) (show (2 : Nat) < 14 by decide) (show _ = ([.ref a, .int i1, .int x3, .retAddr 0, .retAddr 0, .retAddr 0, .retAddr 0, .retAddr 0, .retAddr 0, .retAddr 0, .retAddr 0, .retAddr 0, .retAddr 0, .retAddr 0] : List Value) from rfl)).trans <|
  (l_aload_n (show gPG 215 12 = some (.aload_n 0) by decide +kernel) rfl jr_ref).trans <|
  (l_gR (show gPG 215 13 = some (.getfield 339) by decide +kernel) (kd := 13) (sl := 34) (tc := 1) (fin := 0) (z := 0) (by decide +kernel) (by decide +kernel) (by decide +kernel)).trans <| bd_cg fun w4 hw4 =>
  (l_aload_n (show gPG 215 16 = some (.aload_n 0) by decide +kernel) rfl jr_ref).trans <|
  (l_gI (show gPG 215 17 = some (.getfield 342) by decide +kernel) (kd := 13) (sl := 32) (tc := 0) (fin := 0) (z := 0) (by decide +kernel) (by decide +kernel) (by decide +kernel)).trans <| bd_cg fun x5 hx5 =>
  (l_bipush (show gPG 215 20 = some (.bipush 7) by decide +kernel) (c := 7) (by decide +kernel)).trans <|
  (l_iadd (show gPG 215 22 = some (.iadd) by decide +kernel) ).trans <|
  (l_iald (show gPG 215 23 = some (.iaload) by decide +kernel) ).trans <| bd_cg fun x6 hx6 =>
  (l_istore_n (show gPG 215 24 = some (.istore_n 3) by decide +kernel) (ls := [.ref a, .int i1, .int x3, .retAddr 0, .retAddr 0, .retAddr 0, .retAddr 0, .retAddr 0, .retAddr 0, .retAddr 0, .retAddr 0, .retAddr 0, .retAddr 0, .retAddr 0]) (show (3 : Nat) < 14 by decide) (show _ = ([.ref a, .int i1, .int x3, .int x6, .retAddr 0, .retAddr 0, .retAddr 0, .retAddr 0, .retAddr 0, .retAddr 0, .retAddr 0, .retAddr 0, .retAddr 0, .retAddr 0] : List Value) from rfl)).trans <|
  (l_aload_n (show gPG 215 25 = some (.aload_n 0) by decide +kernel) rfl jr_ref).trans <|
  (l_dup (show gPG 215 26 = some (.dup) by decide +kernel) (jr_cat1 jr_ref)).trans <|
  (l_gI (show gPG 215 27 = some (.getfield 342) by decide +kernel) (kd := 13) (sl := 32) (tc := 0) (fin := 0) (z := 0) (by decide +kernel) (by decide +kernel) (by decide +kernel)).trans <| bd_cg fun x7 hx7 =>
  (l_bipush (show gPG 215 30 = some (.bipush 10) by decide +kernel) (c := 10) (by decide +kernel)).trans <|
  (l_iadd (show gPG 215 32 = some (.iadd) by decide +kernel) ).trans <|
  (l_pI (show gPG 215 33 = some (.putfield 342) by decide +kernel) (kd := 13) (sl := 32) (tc := 0) (fin := 0) (z := 0) (by decide +kernel) (by decide +kernel) (by decide +kernel)).trans <| bd_cg fun m8 hm8 =>
  (l_iload_n (show gPG 215 36 = some (.iload_n 2) by decide +kernel) rfl).trans <|
  (l_cmp0 (show gPG 215 37 = some (.ifCond .ne 7) by decide +kernel) (t := 44) (by decide +kernel)).trans <| jm_ne.trans <| ite_cg (
  (l_iconst (show gPG 215 40 = some (.iconst (-1)) by decide +kernel) (c := (-1)) (by decide +kernel)).trans <|
  l_goto (show gPG 215 41 = some (.goto 15) by decide +kernel) (t := 56) (by decide +kernel)) (
  (l_aload_n (show gPG 215 44 = some (.aload_n 0) by decide +kernel) rfl jr_ref).trans <|
  (l_aload_n (show gPG 215 45 = some (.aload_n 0) by decide +kernel) rfl jr_ref).trans <|
  (l_gI (show gPG 215 46 = some (.getfield 330) by decide +kernel) (kd := 13) (sl := 31) (tc := 0) (fin := 0) (z := 0) (by decide +kernel) (by decide +kernel) (by decide +kernel)).trans <| bd_cg fun x9 hx9 =>
  (l_iload_n (show gPG 215 49 = some (.iload_n 2) by decide +kernel) rfl).trans <|
  (l_bipush (show gPG 215 50 = some (.bipush 8) by decide +kernel) (c := 8) (by decide +kernel)).trans <|
  (l_idivK (show gPG 215 52 = some (.idiv) by decide +kernel) (by decide +kernel)).trans <|
  l_callV (u := 1) (v := .ref a) (as := [.int x9, .int (x3 / 8)]) (show gPG 215 53 = some (jinvI 1 301) by decide +kernel) (by decide) (cc := 194) (na := 3) (kd := 13) (q4 := 0) (z := 10) (rest := []) (by decide +kernel) (by decide +kernel)  rfl (show (3 : Nat) ≤ 3 by decide) rfl cs0 (by decide +kernel) (cai (cai (cav jr_ref ca0))))
theorem b215_56 (d : Nat) (μ : jM) (a : Nat) (i1 : Int32) (i2 : Int32) (i3 : Int32) (u4 : Value) (u5 : Value) (u6 : Value) (u7 : Value) (u8 : Value) (u9 : Value) (u10 : Value) (u11 : Value) (u12 : Value) (u13 : Value) (s0 : Int32) : jR (d + 1) 215 56 [.ref a, .int i1, .int i2, .int i3, u4, u5, u6, u7, u8, u9, u10, u11, u12, u13] [.int s0] μ = (if i3 = 0 then jR (d + 1) 215 78 [.ref a, .int i1, .int i2, .int i3, .int s0, u5, u6, u7, u8, u9, u10, u11, u12, u13] [.int (-1)] μ else (jgI μ 13 31 (.ref a)).bind fun x1 => (if jrecv μ 13 (.ref a) = true then (jC d 194 [.ref a, .int x1, .int (i3 / 8)] μ).bind fun p2 => jR (d + 1) 215 78 [.ref a, .int i1, .int i2, .int i3, .int s0, u5, u6, u7, u8, u9, u10, u11, u12, u13] (p2.1.toList ++ []) p2.2 else none)) :=
  (l_istore (show gPG 215 56 = some (.istore 4) by decide +kernel) (ls := [.ref a, .int i1, .int i2, .int i3, u4, u5, u6, u7, u8, u9, u10, u11, u12, u13]) (show (4 : Nat) < 14 by decide) (show _ = ([.ref a, .int i1, .int i2, .int i3, .int s0, u5, u6, u7, u8, u9, u10, u11, u12, u13] : List Value) from rfl)).trans <|
  (l_iload_n (show gPG 215 58 = some (.iload_n 3) by decide +kernel) rfl).trans <|
  (l_cmp0 (show gPG 215 59 = some (.ifCond .ne 7) by decide +kernel) (t := 66) (by decide +kernel)).trans <| jm_ne.trans <| ite_cg (
  (l_iconst (show gPG 215 62 = some (.iconst (-1)) by decide +kernel) (c := (-1)) (by decide +kernel)).trans <|
  l_goto (show gPG 215 63 = some (.goto 15) by decide +kernel) (t := 78) (by decide +kernel)) (
  (l_aload_n (show gPG 215 66 = some (.aload_n 0) by decide +kernel) rfl jr_ref).trans <|
  (l_aload_n (show gPG 215 67 = some (.aload_n 0) by decide +kernel) rfl jr_ref).trans <|
  (l_gI (show gPG 215 68 = some (.getfield 330) by decide +kernel) (kd := 13) (sl := 31) (tc := 0) (fin := 0) (z := 0) (by decide +kernel) (by decide +kernel) (by decide +kernel)).trans <| bd_cg fun x1 hx1 =>
  (l_iload_n (show gPG 215 71 = some (.iload_n 3) by decide +kernel) rfl).trans <|
  (l_bipush (show gPG 215 72 = some (.bipush 8) by decide +kernel) (c := 8) (by decide +kernel)).trans <|
  (l_idivK (show gPG 215 74 = some (.idiv) by decide +kernel) (by decide +kernel)).trans <|
  l_callV (u := 1) (v := .ref a) (as := [.int x1, .int (i3 / 8)]) (show gPG 215 75 = some (jinvI 1 301) by decide +kernel) (by decide) (cc := 194) (na := 3) (kd := 13) (q4 := 0) (z := 10) (rest := []) (by decide +kernel) (by decide +kernel)  rfl (show (3 : Nat) ≤ 3 by decide) rfl cs0 (by decide +kernel) (cai (cai (cav jr_ref ca0))))
theorem b215_78 (d : Nat) (μ : jM) (a : Nat) (i1 : Int32) (i2 : Int32) (i3 : Int32) (i4 : Int32) (u5 : Value) (u6 : Value) (u7 : Value) (u8 : Value) (u9 : Value) (u10 : Value) (u11 : Value) (u12 : Value) (u13 : Value) (s0 : Int32) : jR (d + 1) 215 78 [.ref a, .int i1, .int i2, .int i3, .int i4, u5, u6, u7, u8, u9, u10, u11, u12, u13] [.int s0] μ = (if i4 = (-1) then jR (d + 1) 215 92 [.ref a, .int i1, .int i2, .int i3, .int i4, .int s0, u6, u7, u8, u9, u10, u11, u12, u13] [] μ else (if s0 = (-1) then jR (d + 1) 215 92 [.ref a, .int i1, .int i2, .int i3, .int i4, .int s0, u6, u7, u8, u9, u10, u11, u12, u13] [] μ else (jC d 279 [.int ((i2 - i2 / 8 * 8) / 2), .int ((i3 - i3 / 8 * 8) / 2)] μ).bind fun p1 => jR (d + 1) 215 115 [.ref a, .int i1, .int i2, .int i3, .int i4, .int s0, u6, u7, u8, u9, u10, u11, u12, u13] (p1.1.toList ++ []) p1.2)) :=
  (l_istore (show gPG 215 78 = some (.istore 5) by decide +kernel) (ls := [.ref a, .int i1, .int i2, .int i3, .int i4, u5, u6, u7, u8, u9, u10, u11, u12, u13]) (show (5 : Nat) < 14 by decide) (show _ = ([.ref a, .int i1, .int i2, .int i3, .int i4, .int s0, u6, u7, u8, u9, u10, u11, u12, u13] : List Value) from rfl)).trans <|
  (l_iload (show gPG 215 80 = some (.iload 4) by decide +kernel) rfl).trans <|
  (l_iconst (show gPG 215 82 = some (.iconst (-1)) by decide +kernel) (c := (-1)) (by decide +kernel)).trans <|
  (l_cmp (show gPG 215 83 = some (.if_icmp .eq 9) by decide +kernel) (t := 92) (by decide +kernel)).trans <| jm_eq.trans <| ite_cg (
  rfl) (
  (l_iload (show gPG 215 86 = some (.iload 5) by decide +kernel) rfl).trans <|
  (l_iconst (show gPG 215 88 = some (.iconst (-1)) by decide +kernel) (c := (-1)) (by decide +kernel)).trans <|
  (l_cmp (show gPG 215 89 = some (.if_icmp .ne 11) by decide +kernel) (t := 100) (by decide +kernel)).trans <| jm_ne.trans <| ite_cg (
  rfl) (
  (l_iload_n (show gPG 215 100 = some (.iload_n 2) by decide +kernel) rfl).trans <|
  (l_bipush (show gPG 215 101 = some (.bipush 8) by decide +kernel) (c := 8) (by decide +kernel)).trans <|
  (l_iremK (show gPG 215 103 = some (.irem) by decide +kernel) (by decide +kernel)).trans <|
  (l_iconst (show gPG 215 104 = some (.iconst 2) by decide +kernel) (c := 2) (by decide +kernel)).trans <|
  (l_idivK (show gPG 215 105 = some (.idiv) by decide +kernel) (by decide +kernel)).trans <|
  (l_iload_n (show gPG 215 106 = some (.iload_n 3) by decide +kernel) rfl).trans <|
  (l_bipush (show gPG 215 107 = some (.bipush 8) by decide +kernel) (c := 8) (by decide +kernel)).trans <|
  (l_iremK (show gPG 215 109 = some (.irem) by decide +kernel) (by decide +kernel)).trans <|
  (l_iconst (show gPG 215 110 = some (.iconst 2) by decide +kernel) (c := 2) (by decide +kernel)).trans <|
  (l_idivK (show gPG 215 111 = some (.idiv) by decide +kernel) (by decide +kernel)).trans <|
  l_callS (u := 2) (as := [.int ((i2 - i2 / 8 * 8) / 2), .int ((i3 - i3 / 8 * 8) / 2)]) (show gPG 215 112 = some (jinvI 2 318) by decide +kernel) (by decide) (cc := 279) (na := 2) (q4 := 0) (z := 12) (rest := []) (by decide +kernel) (by decide +kernel)  rfl (show (2 : Nat) ≤ 2 by decide) rfl cs0 (by decide +kernel) (cai (cai ca0)) (fun e => absurd e (by decide))))
theorem b215_92 (d : Nat) (μ : jM) (a : Nat) (u1 : Value) (u2 : Value) (u3 : Value) (u4 : Value) (u5 : Value) (u6 : Value) (u7 : Value) (u8 : Value) (u9 : Value) (u10 : Value) (u11 : Value) (u12 : Value) (u13 : Value) : jR d 215 92 [.ref a, u1, u2, u3, u4, u5, u6, u7, u8, u9, u10, u11, u12, u13] [] μ = (jpI μ 13 33 0 (.ref a) (-5)).bind fun m1 => some (some (.int 0), m1) :=
  (l_aload_n (show gPG 215 92 = some (.aload_n 0) by decide +kernel) rfl jr_ref).trans <|
  (l_bipush (show gPG 215 93 = some (.bipush (-5)) by decide +kernel) (c := (-5)) (by decide +kernel)).trans <|
  (l_pI (show gPG 215 95 = some (.putfield 333) by decide +kernel) (kd := 13) (sl := 33) (tc := 0) (fin := 0) (z := 0) (by decide +kernel) (by decide +kernel) (by decide +kernel)).trans <| bd_cg fun m1 hm1 =>
  (l_iconst (show gPG 215 98 = some (.iconst 0) by decide +kernel) (c := 0) (by decide +kernel)).trans <|
  l_iret1 (show gPG 215 99 = some (.ireturn) by decide +kernel) (by decide +kernel)
theorem b215_115 (d : Nat) (μ : jM) (a : Nat) (i1 : Int32) (i2 : Int32) (i3 : Int32) (i4 : Int32) (i5 : Int32) (u6 : Value) (u7 : Value) (u8 : Value) (u9 : Value) (u10 : Value) (u11 : Value) (u12 : Value) (u13 : Value) (s0 : Int32) : jR (d + 1) 215 115 [.ref a, .int i1, .int i2, .int i3, .int i4, .int i5, u6, u7, u8, u9, u10, u11, u12, u13] [.int s0] μ = (jC d 280 [.int ((i2 - i2 / 8 * 8) / 2), .int ((i3 - i3 / 8 * 8) / 2)] μ).bind fun p1 => jR (d + 1) 215 132 [.ref a, .int i1, .int i2, .int i3, .int i4, .int i5, .int s0, u7, u8, u9, u10, u11, u12, u13] (p1.1.toList ++ []) p1.2 :=
  (l_istore (show gPG 215 115 = some (.istore 6) by decide +kernel) (ls := [.ref a, .int i1, .int i2, .int i3, .int i4, .int i5, u6, u7, u8, u9, u10, u11, u12, u13]) (show (6 : Nat) < 14 by decide) (show _ = ([.ref a, .int i1, .int i2, .int i3, .int i4, .int i5, .int s0, u7, u8, u9, u10, u11, u12, u13] : List Value) from rfl)).trans <|
  (l_iload_n (show gPG 215 117 = some (.iload_n 2) by decide +kernel) rfl).trans <|
  (l_bipush (show gPG 215 118 = some (.bipush 8) by decide +kernel) (c := 8) (by decide +kernel)).trans <|
  (l_iremK (show gPG 215 120 = some (.irem) by decide +kernel) (by decide +kernel)).trans <|
  (l_iconst (show gPG 215 121 = some (.iconst 2) by decide +kernel) (c := 2) (by decide +kernel)).trans <|
  (l_idivK (show gPG 215 122 = some (.idiv) by decide +kernel) (by decide +kernel)).trans <|
  (l_iload_n (show gPG 215 123 = some (.iload_n 3) by decide +kernel) rfl).trans <|
  (l_bipush (show gPG 215 124 = some (.bipush 8) by decide +kernel) (c := 8) (by decide +kernel)).trans <|
  (l_iremK (show gPG 215 126 = some (.irem) by decide +kernel) (by decide +kernel)).trans <|
  (l_iconst (show gPG 215 127 = some (.iconst 2) by decide +kernel) (c := 2) (by decide +kernel)).trans <|
  (l_idivK (show gPG 215 128 = some (.idiv) by decide +kernel) (by decide +kernel)).trans <|
  l_callS (u := 2) (as := [.int ((i2 - i2 / 8 * 8) / 2), .int ((i3 - i3 / 8 * 8) / 2)]) (show gPG 215 129 = some (jinvI 2 366) by decide +kernel) (by decide) (cc := 280) (na := 2) (q4 := 0) (z := 12) (rest := []) (by decide +kernel) (by decide +kernel)  rfl (show (2 : Nat) ≤ 2 by decide) rfl cs0 (by decide +kernel) (cai (cai ca0)) (fun e => absurd e (by decide))
theorem b215_132 (d : Nat) (μ : jM) (a : Nat) (i1 : Int32) (u2 : Value) (u3 : Value) (i4 : Int32) (i5 : Int32) (i6 : Int32) (u7 : Value) (u8 : Value) (u9 : Value) (u10 : Value) (u11 : Value) (u12 : Value) (u13 : Value) (s0 : Int32) : jR (d + 1) 215 132 [.ref a, .int i1, u2, u3, .int i4, .int i5, .int i6, u7, u8, u9, u10, u11, u12, u13] [.int s0] μ = (jC d 279 [.int i4, .int i5] μ).bind fun p1 => jR (d + 1) 215 147 [.ref a, .int i1, u2, u3, .int i4, .int i5, .int i6, .int s0, .int 0, .int 1, u10, u11, u12, u13] (p1.1.toList ++ []) p1.2 :=
  (l_istore (show gPG 215 132 = some (.istore 7) by decide +kernel) (ls := [.ref a, .int i1, u2, u3, .int i4, .int i5, .int i6, u7, u8, u9, u10, u11, u12, u13]) (show (7 : Nat) < 14 by decide) (show _ = ([.ref a, .int i1, u2, u3, .int i4, .int i5, .int i6, .int s0, u8, u9, u10, u11, u12, u13] : List Value) from rfl)).trans <|
  (l_iconst (show gPG 215 134 = some (.iconst 0) by decide +kernel) (c := 0) (by decide +kernel)).trans <|
  (l_istore (show gPG 215 135 = some (.istore 8) by decide +kernel) (ls := [.ref a, .int i1, u2, u3, .int i4, .int i5, .int i6, .int s0, u8, u9, u10, u11, u12, u13]) (show (8 : Nat) < 14 by decide) (show _ = ([.ref a, .int i1, u2, u3, .int i4, .int i5, .int i6, .int s0, .int 0, u9, u10, u11, u12, u13] : List Value) from rfl)).trans <|
  (l_iconst (show gPG 215 137 = some (.iconst 1) by decide +kernel) (c := 1) (by decide +kernel)).trans <|
  (l_istore (show gPG 215 138 = some (.istore 9) by decide +kernel) (ls := [.ref a, .int i1, u2, u3, .int i4, .int i5, .int i6, .int s0, .int 0, u9, u10, u11, u12, u13]) (show (9 : Nat) < 14 by decide) (show _ = ([.ref a, .int i1, u2, u3, .int i4, .int i5, .int i6, .int s0, .int 0, .int 1, u10, u11, u12, u13] : List Value) from rfl)).trans <|
  (l_iload (show gPG 215 140 = some (.iload 4) by decide +kernel) rfl).trans <|
  (l_iload (show gPG 215 142 = some (.iload 5) by decide +kernel) rfl).trans <|
  l_callS (u := 2) (as := [.int i4, .int i5]) (show gPG 215 144 = some (jinvI 2 318) by decide +kernel) (by decide) (cc := 279) (na := 2) (q4 := 0) (z := 12) (rest := []) (by decide +kernel) (by decide +kernel)  rfl (show (2 : Nat) ≤ 2 by decide) rfl cs0 (by decide +kernel) (cai (cai ca0)) (fun e => absurd e (by decide))
theorem b215_147 (d : Nat) (μ : jM) (a : Nat) (i1 : Int32) (u2 : Value) (u3 : Value) (i4 : Int32) (i5 : Int32) (i6 : Int32) (i7 : Int32) (i8 : Int32) (i9 : Int32) (u10 : Value) (u11 : Value) (u12 : Value) (u13 : Value) (s0 : Int32) : jR d 215 147 [.ref a, .int i1, u2, u3, .int i4, .int i5, .int i6, .int i7, .int i8, .int i9, u10, u11, u12, u13] [.int s0] μ = jR d 215 149 [.ref a, .int i1, u2, u3, .int i4, .int i5, .int i6, .int i7, .int i8, .int i9, .int s0, u11, u12, u13] [] μ :=
  l_istore (show gPG 215 147 = some (.istore 10) by decide +kernel) (ls := [.ref a, .int i1, u2, u3, .int i4, .int i5, .int i6, .int i7, .int i8, .int i9, u10, u11, u12, u13]) (show (10 : Nat) < 14 by decide) (show _ = ([.ref a, .int i1, u2, u3, .int i4, .int i5, .int i6, .int i7, .int i8, .int i9, .int s0, u11, u12, u13] : List Value) from rfl)
theorem b215_149 (d : Nat) (μ : jM) (a : Nat) (i1 : Int32) (u2 : Value) (u3 : Value) (i4 : Int32) (i5 : Int32) (i6 : Int32) (i7 : Int32) (i8 : Int32) (i9 : Int32) (i10 : Int32) (u11 : Value) (u12 : Value) (u13 : Value) : jR (d + 1) 215 149 [.ref a, .int i1, u2, u3, .int i4, .int i5, .int i6, .int i7, .int i8, .int i9, .int i10, u11, u12, u13] [] μ = (jC d 280 [.int i4, .int i5] μ).bind fun p1 => jR (d + 1) 215 158 [.ref a, .int i1, u2, u3, .int i4, .int i5, .int i6, .int i7, .int i8, .int i9, .int i10, u11, u12, u13] (p1.1.toList ++ [.int i10]) p1.2 :=
  (l_iload (show gPG 215 149 = some (.iload 10) by decide +kernel) rfl).trans <|
  (l_iload (show gPG 215 151 = some (.iload 4) by decide +kernel) rfl).trans <|
  (l_iload (show gPG 215 153 = some (.iload 5) by decide +kernel) rfl).trans <|
  l_callS (u := 2) (as := [.int i4, .int i5]) (show gPG 215 155 = some (jinvI 2 366) by decide +kernel) (by decide) (cc := 280) (na := 2) (q4 := 0) (z := 12) (rest := [.int i10]) (by decide +kernel) (by decide +kernel)  rfl (show (2 : Nat) ≤ 3 by decide) rfl (csi cs0) (by decide +kernel) (cai (cai ca0)) (fun e => absurd e (by decide))
theorem b215_158 (d : Nat) (μ : jM) (a : Nat) (i1 : Int32) (u2 : Value) (u3 : Value) (i4 : Int32) (i5 : Int32) (i6 : Int32) (i7 : Int32) (i8 : Int32) (i9 : Int32) (i10 : Int32) (u11 : Value) (u12 : Value) (u13 : Value) (s0 : Int32) (s1 : Int32) : jR d 215 158 [.ref a, .int i1, u2, u3, .int i4, .int i5, .int i6, .int i7, .int i8, .int i9, .int i10, u11, u12, u13] [.int s1, .int s0] μ = (if s1 < s0 then some (some (.int i8), μ) else jR d 215 165 [.ref a, .int i1, u2, u3, .int i4, .int i5, .int i6, .int i7, .int i8, .int i9, .int i10, .int i6, u12, u13] [] μ) :=
  (l_cmp (show gPG 215 158 = some (.if_icmp .gt 134) by decide +kernel) (t := 292) (by decide +kernel)).trans <| jm_gt.trans <| ite_cg (
  (l_iload (show gPG 215 292 = some (.iload 8) by decide +kernel) rfl).trans <|
  l_iret1 (show gPG 215 294 = some (.ireturn) by decide +kernel) (by decide +kernel)) (
  (l_iload (show gPG 215 161 = some (.iload 6) by decide +kernel) rfl).trans <|
  l_istore (show gPG 215 163 = some (.istore 11) by decide +kernel) (ls := [.ref a, .int i1, u2, u3, .int i4, .int i5, .int i6, .int i7, .int i8, .int i9, .int i10, u11, u12, u13]) (show (11 : Nat) < 14 by decide) (show _ = ([.ref a, .int i1, u2, u3, .int i4, .int i5, .int i6, .int i7, .int i8, .int i9, .int i10, .int i6, u12, u13] : List Value) from rfl))
theorem b215_165 (d : Nat) (μ : jM) (a : Nat) (i1 : Int32) (u2 : Value) (u3 : Value) (i4 : Int32) (i5 : Int32) (i6 : Int32) (i7 : Int32) (i8 : Int32) (i9 : Int32) (i10 : Int32) (i11 : Int32) (u12 : Value) (u13 : Value) : jR (d + 1) 215 165 [.ref a, .int i1, u2, u3, .int i4, .int i5, .int i6, .int i7, .int i8, .int i9, .int i10, .int i11, u12, u13] [] μ = (if i7 < i11 then jR (d + 1) 215 149 [.ref a, .int i1, u2, u3, .int i4, .int i5, .int i6, .int i7, .int i8, .int i9, .int (i10 + 1), .int i11, u12, u13] [] μ else (if i1 = 3 then (jgR μ 13 2 (.ref a)).bind fun w2 => (jgI μ 13 31 (.ref a)).bind fun x3 => (jaR μ w2 x3).bind fun w4 => (jaI μ w4 ((3 * i10) + i11)).bind fun x5 => (if x5 = 0 then jR (d + 1) 215 215 [.ref a, .int i1, u2, u3, .int i4, .int i5, .int i6, .int i7, .int i8, .int i9, .int i10, .int i11, .int ((3 * i10) + i11), u13] [.int 0] μ else jR (d + 1) 215 215 [.ref a, .int i1, u2, u3, .int i4, .int i5, .int i6, .int i7, .int i8, .int i9, .int i10, .int i11, .int ((3 * i10) + i11), u13] [.int 1] μ) else (if jrecv μ 13 (.ref a) = true then (jC d 210 [.ref a, .int ((3 * i10) + i11)] μ).bind fun p1 => jR (d + 1) 215 215 [.ref a, .int i1, u2, u3, .int i4, .int i5, .int i6, .int i7, .int i8, .int i9, .int i10, .int i11, .int ((3 * i10) + i11), u13] (p1.1.toList ++ []) p1.2 else none))) :=
  (l_iload (show gPG 215 165 = some (.iload 11) by decide +kernel) rfl).trans <|
  (l_iload (show gPG 215 167 = some (.iload 7) by decide +kernel) rfl).trans <|
  (l_cmp (show gPG 215 169 = some (.if_icmp .gt 117) by decide +kernel) (t := 286) (by decide +kernel)).trans <| jm_gt.trans <| ite_cg (
  (l_iinc (show gPG 215 286 = some (.iinc 10 1) by decide +kernel) (c := 1) (by decide +kernel) rfl (show _ = ([.ref a, .int i1, u2, u3, .int i4, .int i5, .int i6, .int i7, .int i8, .int i9, .int (i10 + 1), .int i11, u12, u13] : List Value) from rfl)).trans <|
  l_goto (show gPG 215 289 = some (.goto (-140)) by decide +kernel) (t := 149) (by decide +kernel)) (
  (l_iconst (show gPG 215 172 = some (.iconst 3) by decide +kernel) (c := 3) (by decide +kernel)).trans <|
  (l_iload (show gPG 215 173 = some (.iload 10) by decide +kernel) rfl).trans <|
  (l_imul (show gPG 215 175 = some (.imul) by decide +kernel) ).trans <|
  (l_iload (show gPG 215 176 = some (.iload 11) by decide +kernel) rfl).trans <|
  (l_iadd (show gPG 215 178 = some (.iadd) by decide +kernel) ).trans <|
  (l_istore (show gPG 215 179 = some (.istore 12) by decide +kernel) (ls := [.ref a, .int i1, u2, u3, .int i4, .int i5, .int i6, .int i7, .int i8, .int i9, .int i10, .int i11, u12, u13]) (show (12 : Nat) < 14 by decide) (show _ = ([.ref a, .int i1, u2, u3, .int i4, .int i5, .int i6, .int i7, .int i8, .int i9, .int i10, .int i11, .int ((3 * i10) + i11), u13] : List Value) from rfl)).trans <|
  (l_iload_n (show gPG 215 181 = some (.iload_n 1) by decide +kernel) rfl).trans <|
  (l_iconst (show gPG 215 182 = some (.iconst 3) by decide +kernel) (c := 3) (by decide +kernel)).trans <|
  (l_cmp (show gPG 215 183 = some (.if_icmp .ne 26) by decide +kernel) (t := 209) (by decide +kernel)).trans <| jm_ne.trans <| ite_cg (
  (l_aload_n (show gPG 215 186 = some (.aload_n 0) by decide +kernel) rfl jr_ref).trans <|
  (l_gR (show gPG 215 187 = some (.getfield 20) by decide +kernel) (kd := 13) (sl := 2) (tc := 1) (fin := 1) (z := 0) (by decide +kernel) (by decide +kernel) (by decide +kernel)).trans <| bd_cg fun w2 hw2 =>
  (l_aload_n (show gPG 215 190 = some (.aload_n 0) by decide +kernel) rfl jr_ref).trans <|
  (l_gI (show gPG 215 191 = some (.getfield 330) by decide +kernel) (kd := 13) (sl := 31) (tc := 0) (fin := 0) (z := 0) (by decide +kernel) (by decide +kernel) (by decide +kernel)).trans <| bd_cg fun x3 hx3 =>
  (l_aald (show gPG 215 194 = some (.aaload) by decide +kernel) ).trans <| bd_cg fun w4 hw4 =>
  (l_iload (show gPG 215 195 = some (.iload 12) by decide +kernel) rfl).trans <|
  (l_iald (show gPG 215 197 = some (.iaload) by decide +kernel) ).trans <| bd_cg fun x5 hx5 =>
  (l_cmp0 (show gPG 215 198 = some (.ifCond .eq 7) by decide +kernel) (t := 205) (by decide +kernel)).trans <| jm_eq.trans <| ite_cg (
  (l_iconst (show gPG 215 205 = some (.iconst 0) by decide +kernel) (c := 0) (by decide +kernel)).trans <|
  l_goto (show gPG 215 206 = some (.goto 9) by decide +kernel) (t := 215) (by decide +kernel)) (
  (l_iconst (show gPG 215 201 = some (.iconst 1) by decide +kernel) (c := 1) (by decide +kernel)).trans <|
  l_goto (show gPG 215 202 = some (.goto 13) by decide +kernel) (t := 215) (by decide +kernel))) (
  (l_aload_n (show gPG 215 209 = some (.aload_n 0) by decide +kernel) rfl jr_ref).trans <|
  (l_iload (show gPG 215 210 = some (.iload 12) by decide +kernel) rfl).trans <|
  l_callV (u := 1) (v := .ref a) (as := [.int ((3 * i10) + i11)]) (show gPG 215 212 = some (jinvI 1 363) by decide +kernel) (by decide) (cc := 210) (na := 2) (kd := 13) (q4 := 0) (z := 10) (rest := []) (by decide +kernel) (by decide +kernel)  rfl (show (2 : Nat) ≤ 2 by decide) rfl cs0 (by decide +kernel) (cai (cav jr_ref ca0))))
theorem b215_215 (d : Nat) (μ : jM) (a : Nat) (i1 : Int32) (u2 : Value) (u3 : Value) (i4 : Int32) (i5 : Int32) (i6 : Int32) (i7 : Int32) (i8 : Int32) (i9 : Int32) (i10 : Int32) (i11 : Int32) (u12 : Value) (u13 : Value) (s0 : Int32) : jR (d + 1) 215 215 [.ref a, .int i1, u2, u3, .int i4, .int i5, .int i6, .int i7, .int i8, .int i9, .int i10, .int i11, u12, u13] [.int s0] μ = (jgI μ 13 33 (.ref a)).bind fun x1 => (if x1 = 0 then (if i1 = 0 then jR (d + 1) 215 235 [.ref a, .int i1, u2, u3, .int i4, .int i5, .int i6, .int i7, .int i8, .int i9, .int i10, .int i11, u12, .int s0] [] μ else (if i1 = 3 then jR (d + 1) 215 235 [.ref a, .int i1, u2, u3, .int i4, .int i5, .int i6, .int i7, .int i8, .int i9, .int i10, .int i11, u12, .int s0] [] μ else (if i9 = 0 then (if i1 = 1 then (jC d 280 [.int i8, .int s0] μ).bind fun p3 => jR (d + 1) 215 265 [.ref a, .int i1, u2, u3, .int i4, .int i5, .int i6, .int i7, .int i8, .int i9, .int i10, .int i11, u12, .int s0] (p3.1.toList ++ []) p3.2 else (jC d 279 [.int i8, .int s0] μ).bind fun p2 => jR (d + 1) 215 275 [.ref a, .int i1, u2, u3, .int i4, .int i5, .int i6, .int i7, .int i8, .int i9, .int i10, .int i11, u12, .int s0] (p2.1.toList ++ []) p2.2) else jR (d + 1) 215 275 [.ref a, .int i1, u2, u3, .int i4, .int i5, .int i6, .int i7, .int i8, .int i9, .int i10, .int i11, u12, .int s0] [.int s0] μ))) else some (some (.int 0), μ)) :=
  (l_istore (show gPG 215 215 = some (.istore 13) by decide +kernel) (ls := [.ref a, .int i1, u2, u3, .int i4, .int i5, .int i6, .int i7, .int i8, .int i9, .int i10, .int i11, u12, u13]) (show (13 : Nat) < 14 by decide) (show _ = ([.ref a, .int i1, u2, u3, .int i4, .int i5, .int i6, .int i7, .int i8, .int i9, .int i10, .int i11, u12, .int s0] : List Value) from rfl)).trans <|
  (l_aload_n (show gPG 215 217 = some (.aload_n 0) by decide +kernel) rfl jr_ref).trans <|
  (l_gI (show gPG 215 218 = some (.getfield 333) by decide +kernel) (kd := 13) (sl := 33) (tc := 0) (fin := 0) (z := 0) (by decide +kernel) (by decide +kernel) (by decide +kernel)).trans <| bd_cg fun x1 hx1 =>
  (l_cmp0 (show gPG 215 221 = some (.ifCond .eq 5) by decide +kernel) (t := 226) (by decide +kernel)).trans <| jm_eq.trans <| ite_cg (
  (l_iload_n (show gPG 215 226 = some (.iload_n 1) by decide +kernel) rfl).trans <|
  (l_cmp0 (show gPG 215 227 = some (.ifCond .eq 8) by decide +kernel) (t := 235) (by decide +kernel)).trans <| jm_eq.trans <| ite_cg (
  rfl) (
  (l_iload_n (show gPG 215 230 = some (.iload_n 1) by decide +kernel) rfl).trans <|
  (l_iconst (show gPG 215 231 = some (.iconst 3) by decide +kernel) (c := 3) (by decide +kernel)).trans <|
  (l_cmp (show gPG 215 232 = some (.if_icmp .ne 11) by decide +kernel) (t := 243) (by decide +kernel)).trans <| jm_ne.trans <| ite_cg (
  rfl) (
  (l_iload (show gPG 215 243 = some (.iload 9) by decide +kernel) rfl).trans <|
  (l_cmp0 (show gPG 215 245 = some (.ifCond .eq 8) by decide +kernel) (t := 253) (by decide +kernel)).trans <| jm_eq.trans <| ite_cg (
  (l_iload_n (show gPG 215 253 = some (.iload_n 1) by decide +kernel) rfl).trans <|
  (l_iconst (show gPG 215 254 = some (.iconst 1) by decide +kernel) (c := 1) (by decide +kernel)).trans <|
  (l_cmp (show gPG 215 255 = some (.if_icmp .ne 13) by decide +kernel) (t := 268) (by decide +kernel)).trans <| jm_ne.trans <| ite_cg (
  (l_iload (show gPG 215 258 = some (.iload 8) by decide +kernel) rfl).trans <|
  (l_iload (show gPG 215 260 = some (.iload 13) by decide +kernel) rfl).trans <|
  l_callS (u := 2) (as := [.int i8, .int s0]) (show gPG 215 262 = some (jinvI 2 366) by decide +kernel) (by decide) (cc := 280) (na := 2) (q4 := 0) (z := 12) (rest := []) (by decide +kernel) (by decide +kernel)  rfl (show (2 : Nat) ≤ 2 by decide) rfl cs0 (by decide +kernel) (cai (cai ca0)) (fun e => absurd e (by decide))) (
  (l_iload (show gPG 215 268 = some (.iload 8) by decide +kernel) rfl).trans <|
  (l_iload (show gPG 215 270 = some (.iload 13) by decide +kernel) rfl).trans <|
  l_callS (u := 2) (as := [.int i8, .int s0]) (show gPG 215 272 = some (jinvI 2 318) by decide +kernel) (by decide) (cc := 279) (na := 2) (q4 := 0) (z := 12) (rest := []) (by decide +kernel) (by decide +kernel)  rfl (show (2 : Nat) ≤ 2 by decide) rfl cs0 (by decide +kernel) (cai (cai ca0)) (fun e => absurd e (by decide)))) (
  (l_iload (show gPG 215 248 = some (.iload 13) by decide +kernel) rfl).trans <|
  l_goto (show gPG 215 250 = some (.goto 25) by decide +kernel) (t := 275) (by decide +kernel))))) (
  (l_iconst (show gPG 215 224 = some (.iconst 0) by decide +kernel) (c := 0) (by decide +kernel)).trans <|
  l_iret1 (show gPG 215 225 = some (.ireturn) by decide +kernel) (by decide +kernel))
theorem b215_235 (d : Nat) (μ : jM) (a : Nat) (i1 : Int32) (u2 : Value) (u3 : Value) (i4 : Int32) (i5 : Int32) (i6 : Int32) (i7 : Int32) (i8 : Int32) (u9 : Value) (i10 : Int32) (i11 : Int32) (u12 : Value) (i13 : Int32) : jR d 215 235 [.ref a, .int i1, u2, u3, .int i4, .int i5, .int i6, .int i7, .int i8, u9, .int i10, .int i11, u12, .int i13] [] μ = jR d 215 275 [.ref a, .int i1, u2, u3, .int i4, .int i5, .int i6, .int i7, .int i8, u9, .int i10, .int i11, u12, .int i13] [.int (i8 + i13)] μ :=
  (l_iload (show gPG 215 235 = some (.iload 8) by decide +kernel) rfl).trans <|
  (l_iload (show gPG 215 237 = some (.iload 13) by decide +kernel) rfl).trans <|
  (l_iadd (show gPG 215 239 = some (.iadd) by decide +kernel) ).trans <|
  l_goto (show gPG 215 240 = some (.goto 35) by decide +kernel) (t := 275) (by decide +kernel)
theorem b215_265 (d : Nat) (μ : jM) (a : Nat) (i1 : Int32) (u2 : Value) (u3 : Value) (i4 : Int32) (i5 : Int32) (i6 : Int32) (i7 : Int32) (u8 : Value) (u9 : Value) (i10 : Int32) (i11 : Int32) (u12 : Value) (u13 : Value) (s0 : Int32) : jR d 215 265 [.ref a, .int i1, u2, u3, .int i4, .int i5, .int i6, .int i7, u8, u9, .int i10, .int i11, u12, u13] [.int s0] μ = jR d 215 275 [.ref a, .int i1, u2, u3, .int i4, .int i5, .int i6, .int i7, u8, u9, .int i10, .int i11, u12, u13] [.int s0] μ :=
  l_goto (show gPG 215 265 = some (.goto 10) by decide +kernel) (t := 275) (by decide +kernel)
theorem b215_275 (d : Nat) (μ : jM) (a : Nat) (i1 : Int32) (u2 : Value) (u3 : Value) (i4 : Int32) (i5 : Int32) (i6 : Int32) (i7 : Int32) (u8 : Value) (u9 : Value) (i10 : Int32) (i11 : Int32) (u12 : Value) (u13 : Value) (s0 : Int32) : jR d 215 275 [.ref a, .int i1, u2, u3, .int i4, .int i5, .int i6, .int i7, u8, u9, .int i10, .int i11, u12, u13] [.int s0] μ = jR d 215 165 [.ref a, .int i1, u2, u3, .int i4, .int i5, .int i6, .int i7, .int s0, .int 0, .int i10, .int (i11 + 1), u12, u13] [] μ :=
  (l_istore (show gPG 215 275 = some (.istore 8) by decide +kernel) (ls := [.ref a, .int i1, u2, u3, .int i4, .int i5, .int i6, .int i7, u8, u9, .int i10, .int i11, u12, u13]) (show (8 : Nat) < 14 by decide) (show _ = ([.ref a, .int i1, u2, u3, .int i4, .int i5, .int i6, .int i7, .int s0, u9, .int i10, .int i11, u12, u13] : List Value) from rfl)).trans <|
  (l_iconst (show gPG 215 277 = some (.iconst 0) by decide +kernel) (c := 0) (by decide +kernel)).trans <|
  (l_istore (show gPG 215 278 = some (.istore 9) by decide +kernel) (ls := [.ref a, .int i1, u2, u3, .int i4, .int i5, .int i6, .int i7, .int s0, u9, .int i10, .int i11, u12, u13]) (show (9 : Nat) < 14 by decide) (show _ = ([.ref a, .int i1, u2, u3, .int i4, .int i5, .int i6, .int i7, .int s0, .int 0, .int i10, .int i11, u12, u13] : List Value) from rfl)).trans <|
  (l_iinc (show gPG 215 280 = some (.iinc 11 1) by decide +kernel) (c := 1) (by decide +kernel) rfl (show _ = ([.ref a, .int i1, u2, u3, .int i4, .int i5, .int i6, .int i7, .int s0, .int 0, .int i10, .int (i11 + 1), u12, u13] : List Value) from rfl)).trans <|
  l_goto (show gPG 215 283 = some (.goto (-118)) by decide +kernel) (t := 165) (by decide +kernel)
-- Ref.refNow
theorem b216_0 (d : Nat) (μ : jM) (a : Nat) (i1 : Int32) : jR (d + 1) 216 0 [.ref a, .int i1, .retAddr 0] [] μ = (if i1 = 0 then jR (d + 1) 216 20 [.ref a, .int i1, .retAddr 0] [.int (-1)] μ else (jgI μ 13 31 (.ref a)).bind fun x1 => (if jrecv μ 13 (.ref a) = true then (jC d 194 [.ref a, .int x1, .int (i1 / 8)] μ).bind fun p2 => jR (d + 1) 216 20 [.ref a, .int i1, .retAddr 0] (p2.1.toList ++ []) p2.2 else none)) :=
  (l_iload_n (show gPG 216 0 = some (.iload_n 1) by decide +kernel) rfl).trans <|
  (l_cmp0 (show gPG 216 1 = some (.ifCond .ne 7) by decide +kernel) (t := 8) (by decide +kernel)).trans <| jm_ne.trans <| ite_cg (
  (l_iconst (show gPG 216 4 = some (.iconst (-1)) by decide +kernel) (c := (-1)) (by decide +kernel)).trans <|
  l_goto (show gPG 216 5 = some (.goto 15) by decide +kernel) (t := 20) (by decide +kernel)) (
  (l_aload_n (show gPG 216 8 = some (.aload_n 0) by decide +kernel) rfl jr_ref).trans <|
  (l_aload_n (show gPG 216 9 = some (.aload_n 0) by decide +kernel) rfl jr_ref).trans <|
  (l_gI (show gPG 216 10 = some (.getfield 330) by decide +kernel) (kd := 13) (sl := 31) (tc := 0) (fin := 0) (z := 0) (by decide +kernel) (by decide +kernel) (by decide +kernel)).trans <| bd_cg fun x1 hx1 =>
  (l_iload_n (show gPG 216 13 = some (.iload_n 1) by decide +kernel) rfl).trans <|
  (l_bipush (show gPG 216 14 = some (.bipush 8) by decide +kernel) (c := 8) (by decide +kernel)).trans <|
  (l_idivK (show gPG 216 16 = some (.idiv) by decide +kernel) (by decide +kernel)).trans <|
  l_callV (u := 1) (v := .ref a) (as := [.int x1, .int (i1 / 8)]) (show gPG 216 17 = some (jinvI 1 301) by decide +kernel) (by decide) (cc := 194) (na := 3) (kd := 13) (q4 := 0) (z := 10) (rest := []) (by decide +kernel) (by decide +kernel)  rfl (show (3 : Nat) ≤ 3 by decide) rfl cs0 (by decide +kernel) (cai (cai (cav jr_ref ca0))))
theorem b216_20 (d : Nat) (μ : jM) (a : Nat) (i1 : Int32) (u2 : Value) (s0 : Int32) : jR (d + 1) 216 20 [.ref a, .int i1, u2] [.int s0] μ = (if s0 = (-1) then (jpI μ 13 33 0 (.ref a) (-5)).bind fun m2 => some (some (.int 0), m2) else (if jrecv μ 13 (.ref a) = true then (jC d 210 [.ref a, .int ((3 * s0) + ((i1 - i1 / 8 * 8) / 2))] μ).bind fun p1 => jR (d + 1) 216 48 [.ref a, .int i1, .int s0] (p1.1.toList ++ []) p1.2 else none)) :=
  (l_istore_n (show gPG 216 20 = some (.istore_n 2) by decide +kernel) (ls := [.ref a, .int i1, u2]) (show (2 : Nat) < 3 by decide) (show _ = ([.ref a, .int i1, .int s0] : List Value) from rfl)).trans <|
  (l_iload_n (show gPG 216 21 = some (.iload_n 2) by decide +kernel) rfl).trans <|
  (l_iconst (show gPG 216 22 = some (.iconst (-1)) by decide +kernel) (c := (-1)) (by decide +kernel)).trans <|
  (l_cmp (show gPG 216 23 = some (.if_icmp .ne 11) by decide +kernel) (t := 34) (by decide +kernel)).trans <| jm_ne.trans <| ite_cg (
  (l_aload_n (show gPG 216 26 = some (.aload_n 0) by decide +kernel) rfl jr_ref).trans <|
  (l_bipush (show gPG 216 27 = some (.bipush (-5)) by decide +kernel) (c := (-5)) (by decide +kernel)).trans <|
  (l_pI (show gPG 216 29 = some (.putfield 333) by decide +kernel) (kd := 13) (sl := 33) (tc := 0) (fin := 0) (z := 0) (by decide +kernel) (by decide +kernel) (by decide +kernel)).trans <| bd_cg fun m2 hm2 =>
  (l_iconst (show gPG 216 32 = some (.iconst 0) by decide +kernel) (c := 0) (by decide +kernel)).trans <|
  l_iret1 (show gPG 216 33 = some (.ireturn) by decide +kernel) (by decide +kernel)) (
  (l_aload_n (show gPG 216 34 = some (.aload_n 0) by decide +kernel) rfl jr_ref).trans <|
  (l_iconst (show gPG 216 35 = some (.iconst 3) by decide +kernel) (c := 3) (by decide +kernel)).trans <|
  (l_iload_n (show gPG 216 36 = some (.iload_n 2) by decide +kernel) rfl).trans <|
  (l_imul (show gPG 216 37 = some (.imul) by decide +kernel) ).trans <|
  (l_iload_n (show gPG 216 38 = some (.iload_n 1) by decide +kernel) rfl).trans <|
  (l_bipush (show gPG 216 39 = some (.bipush 8) by decide +kernel) (c := 8) (by decide +kernel)).trans <|
  (l_iremK (show gPG 216 41 = some (.irem) by decide +kernel) (by decide +kernel)).trans <|
  (l_iconst (show gPG 216 42 = some (.iconst 2) by decide +kernel) (c := 2) (by decide +kernel)).trans <|
  (l_idivK (show gPG 216 43 = some (.idiv) by decide +kernel) (by decide +kernel)).trans <|
  (l_iadd (show gPG 216 44 = some (.iadd) by decide +kernel) ).trans <|
  l_callV (u := 1) (v := .ref a) (as := [.int ((3 * s0) + ((i1 - i1 / 8 * 8) / 2))]) (show gPG 216 45 = some (jinvI 1 363) by decide +kernel) (by decide) (cc := 210) (na := 2) (kd := 13) (q4 := 0) (z := 10) (rest := []) (by decide +kernel) (by decide +kernel)  rfl (show (2 : Nat) ≤ 2 by decide) rfl cs0 (by decide +kernel) (cai (cav jr_ref ca0)))
theorem b216_48 (d : Nat) (μ : jM) (u0 : Value) (u1 : Value) (u2 : Value) (s0 : Int32) : jR d 216 48 [u0, u1, u2] [.int s0] μ = some (some (.int s0), μ) :=
  l_iret1 (show gPG 216 48 = some (.ireturn) by decide +kernel) (by decide +kernel)
-- Ref.isNow
theorem b217_0 (d : Nat) (μ : jM) (a : Nat) (i1 : Int32) : jR d 217 0 [.ref a, .int i1] [] μ = (jgI μ 13 33 (.ref a)).bind fun x1 => (if x1 = 0 then (jgI μ 13 32 (.ref a)).bind fun x2 => (jgR μ 13 34 (.ref a)).bind fun w3 => (jal μ w3).bind fun x4 => (if x2 < x4 then (jgR μ 13 34 (.ref a)).bind fun w5 => (jgI μ 13 32 (.ref a)).bind fun x6 => (jaI μ w5 x6).bind fun x7 => (if x7 = 1 then (jgR μ 13 34 (.ref a)).bind fun w8 => (jgI μ 13 32 (.ref a)).bind fun x9 => (jaI μ w8 (x9 + 1)).bind fun x10 => (if x10 = i1 then jR d 217 52 [.ref a, .int i1] [.int 1] μ else jR d 217 51 [.ref a, .int i1] [] μ) else jR d 217 51 [.ref a, .int i1] [] μ) else jR d 217 51 [.ref a, .int i1] [] μ) else jR d 217 51 [.ref a, .int i1] [] μ) :=
  (l_aload_n (show gPG 217 0 = some (.aload_n 0) by decide +kernel) rfl jr_ref).trans <|
  (l_gI (show gPG 217 1 = some (.getfield 333) by decide +kernel) (kd := 13) (sl := 33) (tc := 0) (fin := 0) (z := 0) (by decide +kernel) (by decide +kernel) (by decide +kernel)).trans <| bd_cg fun x1 hx1 =>
  (l_cmp0 (show gPG 217 4 = some (.ifCond .ne 47) by decide +kernel) (t := 51) (by decide +kernel)).trans <| jm_ne.trans <| ite_cg (
  (l_aload_n (show gPG 217 7 = some (.aload_n 0) by decide +kernel) rfl jr_ref).trans <|
  (l_gI (show gPG 217 8 = some (.getfield 342) by decide +kernel) (kd := 13) (sl := 32) (tc := 0) (fin := 0) (z := 0) (by decide +kernel) (by decide +kernel) (by decide +kernel)).trans <| bd_cg fun x2 hx2 =>
  (l_aload_n (show gPG 217 11 = some (.aload_n 0) by decide +kernel) rfl jr_ref).trans <|
  (l_gR (show gPG 217 12 = some (.getfield 339) by decide +kernel) (kd := 13) (sl := 34) (tc := 1) (fin := 0) (z := 0) (by decide +kernel) (by decide +kernel) (by decide +kernel)).trans <| bd_cg fun w3 hw3 =>
  (l_alen (show gPG 217 15 = some (.arraylength) by decide +kernel) ).trans <| bd_cg fun x4 hx4 =>
  (l_cmp (show gPG 217 16 = some (.if_icmp .ge 35) by decide +kernel) (t := 51) (by decide +kernel)).trans <| jm_ge.trans <| ite_cg (
  (l_aload_n (show gPG 217 19 = some (.aload_n 0) by decide +kernel) rfl jr_ref).trans <|
  (l_gR (show gPG 217 20 = some (.getfield 339) by decide +kernel) (kd := 13) (sl := 34) (tc := 1) (fin := 0) (z := 0) (by decide +kernel) (by decide +kernel) (by decide +kernel)).trans <| bd_cg fun w5 hw5 =>
  (l_aload_n (show gPG 217 23 = some (.aload_n 0) by decide +kernel) rfl jr_ref).trans <|
  (l_gI (show gPG 217 24 = some (.getfield 342) by decide +kernel) (kd := 13) (sl := 32) (tc := 0) (fin := 0) (z := 0) (by decide +kernel) (by decide +kernel) (by decide +kernel)).trans <| bd_cg fun x6 hx6 =>
  (l_iald (show gPG 217 27 = some (.iaload) by decide +kernel) ).trans <| bd_cg fun x7 hx7 =>
  (l_iconst (show gPG 217 28 = some (.iconst 1) by decide +kernel) (c := 1) (by decide +kernel)).trans <|
  (l_cmp (show gPG 217 29 = some (.if_icmp .ne 22) by decide +kernel) (t := 51) (by decide +kernel)).trans <| jm_ne.trans <| ite_cg (
  (l_aload_n (show gPG 217 32 = some (.aload_n 0) by decide +kernel) rfl jr_ref).trans <|
  (l_gR (show gPG 217 33 = some (.getfield 339) by decide +kernel) (kd := 13) (sl := 34) (tc := 1) (fin := 0) (z := 0) (by decide +kernel) (by decide +kernel) (by decide +kernel)).trans <| bd_cg fun w8 hw8 =>
  (l_aload_n (show gPG 217 36 = some (.aload_n 0) by decide +kernel) rfl jr_ref).trans <|
  (l_gI (show gPG 217 37 = some (.getfield 342) by decide +kernel) (kd := 13) (sl := 32) (tc := 0) (fin := 0) (z := 0) (by decide +kernel) (by decide +kernel) (by decide +kernel)).trans <| bd_cg fun x9 hx9 =>
  (l_iconst (show gPG 217 40 = some (.iconst 1) by decide +kernel) (c := 1) (by decide +kernel)).trans <|
  (l_iadd (show gPG 217 41 = some (.iadd) by decide +kernel) ).trans <|
  (l_iald (show gPG 217 42 = some (.iaload) by decide +kernel) ).trans <| bd_cg fun x10 hx10 =>
  (l_iload_n (show gPG 217 43 = some (.iload_n 1) by decide +kernel) rfl).trans <|
  (l_cmp (show gPG 217 44 = some (.if_icmp .ne 7) by decide +kernel) (t := 51) (by decide +kernel)).trans <| jm_ne.trans <| ite_cg (
  (l_iconst (show gPG 217 47 = some (.iconst 1) by decide +kernel) (c := 1) (by decide +kernel)).trans <|
  l_goto (show gPG 217 48 = some (.goto 4) by decide +kernel) (t := 52) (by decide +kernel)) (
  rfl)) (
  rfl)) (
  rfl)) (
  rfl)
theorem b217_51 (d : Nat) (μ : jM) (u0 : Value) (u1 : Value) : jR d 217 51 [u0, u1] [] μ = jR d 217 52 [u0, u1] [.int 0] μ :=
  l_iconst (show gPG 217 51 = some (.iconst 0) by decide +kernel) (c := 0) (by decide +kernel)
theorem b217_52 (d : Nat) (μ : jM) (u0 : Value) (u1 : Value) (s0 : Int32) : jR d 217 52 [u0, u1] [.int s0] μ = (if jrf 4 s0 = true then some (some (.int s0), μ) else none) :=
  l_iret (show gPG 217 52 = some (.ireturn) by decide +kernel) (rc := 4) (by decide +kernel)
-- Ref.value
theorem b218_0 (d : Nat) (μ : jM) (a : Nat) (i1 : Int32) (i2 : Int32) (i3 : Int32) : jR (d + 1) 218 0 [.ref a, .int i1, .int i2, .int i3, .retAddr 0] [] μ = (if jrecv μ 13 (.ref a) = true then (jC d 169 [.ref a, .int i1, .int i2, .int i3] μ).bind fun p1 => jR (d + 1) 218 7 [.ref a, .int i1, .int i2, .int i3, .retAddr 0] (p1.1.toList ++ []) p1.2 else none) :=
  (l_aload_n (show gPG 218 0 = some (.aload_n 0) by decide +kernel) rfl jr_ref).trans <|
  (l_iload_n (show gPG 218 1 = some (.iload_n 1) by decide +kernel) rfl).trans <|
  (l_iload_n (show gPG 218 2 = some (.iload_n 2) by decide +kernel) rfl).trans <|
  (l_iload_n (show gPG 218 3 = some (.iload_n 3) by decide +kernel) rfl).trans <|
  l_callV (u := 1) (v := .ref a) (as := [.int i1, .int i2, .int i3]) (show gPG 218 4 = some (jinvI 1 285) by decide +kernel) (by decide) (cc := 169) (na := 4) (kd := 13) (q4 := 0) (z := 10) (rest := []) (by decide +kernel) (by decide +kernel)  rfl (show (4 : Nat) ≤ 4 by decide) rfl cs0 (by decide +kernel) (cai (cai (cai (cav jr_ref ca0))))
theorem b218_7 (d : Nat) (μ : jM) (a : Nat) (i1 : Int32) (i2 : Int32) (i3 : Int32) (u4 : Value) (s0 : Int32) : jR (d + 1) 218 7 [.ref a, .int i1, .int i2, .int i3, u4] [.int s0] μ = (if s0 = 0 then some (some (.long (-9223372036854775808)), μ) else (if jrecv μ 13 (.ref a) = true then (jC d 209 [.ref a, .int i1] μ).bind fun p1 => jR (d + 1) 218 19 [.ref a, .int i1, .int i2, .int i3, u4] (p1.1.toList ++ []) p1.2 else none)) :=
  (l_cmp0 (show gPG 218 7 = some (.ifCond .ne 7) by decide +kernel) (t := 14) (by decide +kernel)).trans <| jm_ne.trans <| ite_cg (
  (l_ldc2 (show gPG 218 10 = some (.ldc2_w 372) by decide +kernel) (q := (-9223372036854775808)) (by decide +kernel)).trans <|
  l_lret (show gPG 218 13 = some (.lreturn) by decide +kernel) (by decide +kernel)) (
  (l_aload_n (show gPG 218 14 = some (.aload_n 0) by decide +kernel) rfl jr_ref).trans <|
  (l_iload_n (show gPG 218 15 = some (.iload_n 1) by decide +kernel) rfl).trans <|
  l_callV (u := 1) (v := .ref a) (as := [.int i1]) (show gPG 218 16 = some (jinvI 1 369) by decide +kernel) (by decide) (cc := 209) (na := 2) (kd := 13) (q4 := 0) (z := 10) (rest := []) (by decide +kernel) (by decide +kernel)  rfl (show (2 : Nat) ≤ 2 by decide) rfl cs0 (by decide +kernel) (cai (cav jr_ref ca0)))
theorem b218_19 (d : Nat) (μ : jM) (a : Nat) (u1 : Value) (i2 : Int32) (i3 : Int32) (u4 : Value) : jR (d + 1) 218 19 [.ref a, u1, .int i2, .int i3, u4] [] μ = (jpI μ 13 33 0 (.ref a) 0).bind fun m1 => (if jrecv m1 13 (.ref a) = true then (jC d 210 [.ref a, .int ((3 * i2) + i3)] m1).bind fun p2 => jR (d + 1) 218 33 [.ref a, u1, .int i2, .int i3, u4] (p2.1.toList ++ []) p2.2 else none) :=
  (l_aload_n (show gPG 218 19 = some (.aload_n 0) by decide +kernel) rfl jr_ref).trans <|
  (l_iconst (show gPG 218 20 = some (.iconst 0) by decide +kernel) (c := 0) (by decide +kernel)).trans <|
  (l_pI (show gPG 218 21 = some (.putfield 333) by decide +kernel) (kd := 13) (sl := 33) (tc := 0) (fin := 0) (z := 0) (by decide +kernel) (by decide +kernel) (by decide +kernel)).trans <| bd_cg fun m1 hm1 =>
  (l_aload_n (show gPG 218 24 = some (.aload_n 0) by decide +kernel) rfl jr_ref).trans <|
  (l_iconst (show gPG 218 25 = some (.iconst 3) by decide +kernel) (c := 3) (by decide +kernel)).trans <|
  (l_iload_n (show gPG 218 26 = some (.iload_n 2) by decide +kernel) rfl).trans <|
  (l_imul (show gPG 218 27 = some (.imul) by decide +kernel) ).trans <|
  (l_iload_n (show gPG 218 28 = some (.iload_n 3) by decide +kernel) rfl).trans <|
  (l_iadd (show gPG 218 29 = some (.iadd) by decide +kernel) ).trans <|
  l_callV (u := 1) (v := .ref a) (as := [.int ((3 * i2) + i3)]) (show gPG 218 30 = some (jinvI 1 363) by decide +kernel) (by decide) (cc := 210) (na := 2) (kd := 13) (q4 := 0) (z := 10) (rest := []) (by decide +kernel) (by decide +kernel)  rfl (show (2 : Nat) ≤ 2 by decide) rfl cs0 (by decide +kernel) (cai (cav jr_ref ca0))
theorem b218_33 (d : Nat) (μ : jM) (a : Nat) (u1 : Value) (u2 : Value) (u3 : Value) (u4 : Value) (s0 : Int32) : jR d 218 33 [.ref a, u1, u2, u3, u4] [.int s0] μ = (jgI μ 13 33 (.ref a)).bind fun x1 => (if x1 = 0 then jR d 218 51 [.ref a, u1, u2, u3, .int s0] [.long (Int32.toInt64 s0)] μ else jR d 218 51 [.ref a, u1, u2, u3, .int s0] [.long (-9223372036854775808)] μ) :=
  (l_istore (show gPG 218 33 = some (.istore 4) by decide +kernel) (ls := [.ref a, u1, u2, u3, u4]) (show (4 : Nat) < 5 by decide) (show _ = ([.ref a, u1, u2, u3, .int s0] : List Value) from rfl)).trans <|
  (l_aload_n (show gPG 218 35 = some (.aload_n 0) by decide +kernel) rfl jr_ref).trans <|
  (l_gI (show gPG 218 36 = some (.getfield 333) by decide +kernel) (kd := 13) (sl := 33) (tc := 0) (fin := 0) (z := 0) (by decide +kernel) (by decide +kernel) (by decide +kernel)).trans <| bd_cg fun x1 hx1 =>
  (l_cmp0 (show gPG 218 39 = some (.ifCond .eq 9) by decide +kernel) (t := 48) (by decide +kernel)).trans <| jm_eq.trans <| ite_cg (
  (l_iload (show gPG 218 48 = some (.iload 4) by decide +kernel) rfl).trans <|
  l_i2l (show gPG 218 50 = some (.i2l) by decide +kernel) ) (
  (l_ldc2 (show gPG 218 42 = some (.ldc2_w 372) by decide +kernel) (q := (-9223372036854775808)) (by decide +kernel)).trans <|
  l_goto (show gPG 218 45 = some (.goto 6) by decide +kernel) (t := 51) (by decide +kernel))
theorem b218_51 (d : Nat) (μ : jM) (u0 : Value) (u1 : Value) (u2 : Value) (u3 : Value) (u4 : Value) (s0 : Int64) : jR d 218 51 [u0, u1, u2, u3, u4] [.long s0] μ = some (some (.long s0), μ) :=
  l_lret (show gPG 218 51 = some (.lreturn) by decide +kernel) (by decide +kernel)
-- Ref.print
theorem b219_0 (d : Nat) (μ : jM) (a : Nat) (i1 : Int32) (i2 : Int32) (i3 : Int32) (i4 : Int32) : jR (d + 1) 219 0 [.ref a, .int i1, .int i2, .int i3, .int i4, .retAddr 0] [] μ = (if jrecv μ 13 (.ref a) = true then (jC d 169 [.ref a, .int i1, .int i2, .int i3] μ).bind fun p1 => jR (d + 1) 219 7 [.ref a, .int i1, .int i2, .int i3, .int i4, .retAddr 0] (p1.1.toList ++ []) p1.2 else none) :=
  (l_aload_n (show gPG 219 0 = some (.aload_n 0) by decide +kernel) rfl jr_ref).trans <|
  (l_iload_n (show gPG 219 1 = some (.iload_n 1) by decide +kernel) rfl).trans <|
  (l_iload_n (show gPG 219 2 = some (.iload_n 2) by decide +kernel) rfl).trans <|
  (l_iload_n (show gPG 219 3 = some (.iload_n 3) by decide +kernel) rfl).trans <|
  l_callV (u := 1) (v := .ref a) (as := [.int i1, .int i2, .int i3]) (show gPG 219 4 = some (jinvI 1 285) by decide +kernel) (by decide) (cc := 169) (na := 4) (kd := 13) (q4 := 0) (z := 10) (rest := []) (by decide +kernel) (by decide +kernel)  rfl (show (4 : Nat) ≤ 4 by decide) rfl cs0 (by decide +kernel) (cai (cai (cai (cav jr_ref ca0))))
theorem b219_7 (d : Nat) (μ : jM) (a : Nat) (i1 : Int32) (i2 : Int32) (i3 : Int32) (i4 : Int32) (u5 : Value) (s0 : Int32) : jR (d + 1) 219 7 [.ref a, .int i1, .int i2, .int i3, .int i4, u5] [.int s0] μ = (if s0 = 0 then some (some (.int (-2)), μ) else (if jrecv μ 13 (.ref a) = true then (jC d 220 [.ref a, .int i1, .int ((3 * i2) + i3)] μ).bind fun p1 => jR (d + 1) 219 23 [.ref a, .int i1, .int i2, .int i3, .int i4, u5] (p1.1.toList ++ []) p1.2 else none)) :=
  (l_cmp0 (show gPG 219 7 = some (.ifCond .ne 6) by decide +kernel) (t := 13) (by decide +kernel)).trans <| jm_ne.trans <| ite_cg (
  (l_bipush (show gPG 219 10 = some (.bipush (-2)) by decide +kernel) (c := (-2)) (by decide +kernel)).trans <|
  l_iret1 (show gPG 219 12 = some (.ireturn) by decide +kernel) (by decide +kernel)) (
  (l_aload_n (show gPG 219 13 = some (.aload_n 0) by decide +kernel) rfl jr_ref).trans <|
  (l_iload_n (show gPG 219 14 = some (.iload_n 1) by decide +kernel) rfl).trans <|
  (l_iconst (show gPG 219 15 = some (.iconst 3) by decide +kernel) (c := 3) (by decide +kernel)).trans <|
  (l_iload_n (show gPG 219 16 = some (.iload_n 2) by decide +kernel) rfl).trans <|
  (l_imul (show gPG 219 17 = some (.imul) by decide +kernel) ).trans <|
  (l_iload_n (show gPG 219 18 = some (.iload_n 3) by decide +kernel) rfl).trans <|
  (l_iadd (show gPG 219 19 = some (.iadd) by decide +kernel) ).trans <|
  l_callV (u := 1) (v := .ref a) (as := [.int i1, .int ((3 * i2) + i3)]) (show gPG 219 20 = some (jinvI 1 405) by decide +kernel) (by decide) (cc := 220) (na := 3) (kd := 13) (q4 := 0) (z := 10) (rest := []) (by decide +kernel) (by decide +kernel)  rfl (show (3 : Nat) ≤ 3 by decide) rfl cs0 (by decide +kernel) (cai (cai (cav jr_ref ca0))))
theorem b219_23 (d : Nat) (μ : jM) (u0 : Value) (u1 : Value) (u2 : Value) (u3 : Value) (i4 : Int32) (u5 : Value) (s0 : Value) (hs0 : jisref s0 = true) : jR (d + 1) 219 23 [u0, u1, u2, u3, .int i4, u5] [s0] μ = (if i4 = (-1) then (if jrecv μ 0 s0 = true then (jC d 281 [s0] μ).bind fun p2 => jR (d + 1) 219 36 [u0, u1, u2, u3, .int i4, s0] (p2.1.toList ++ []) p2.2 else none) else (if jrecv μ 0 s0 = true then (jC d 281 [s0] μ).bind fun p1 => jR (d + 1) 219 45 [u0, u1, u2, u3, .int i4, s0] (p1.1.toList ++ [.int 0, .int i4]) p1.2 else none)) :=
  (l_astore (show gPG 219 23 = some (.astore 5) by decide +kernel) (ls := [u0, u1, u2, u3, .int i4, u5]) hs0 (show (5 : Nat) < 6 by decide) (show _ = ([u0, u1, u2, u3, .int i4, s0] : List Value) from rfl)).trans <|
  (l_iload (show gPG 219 25 = some (.iload 4) by decide +kernel) rfl).trans <|
  (l_iconst (show gPG 219 27 = some (.iconst (-1)) by decide +kernel) (c := (-1)) (by decide +kernel)).trans <|
  (l_cmp (show gPG 219 28 = some (.if_icmp .ne 9) by decide +kernel) (t := 37) (by decide +kernel)).trans <| jm_ne.trans <| ite_cg (
  (l_aload (show gPG 219 31 = some (.aload 5) by decide +kernel) rfl hs0).trans <|
  l_callV (u := 1) (v := s0) (as := []) (show gPG 219 33 = some (jinvI 1 179) by decide +kernel) (by decide) (cc := 281) (na := 1) (kd := 0) (q4 := 0) (z := 10) (rest := []) (by decide +kernel) (by decide +kernel)  rfl (show (1 : Nat) ≤ 1 by decide) rfl cs0 (by decide +kernel) (cav hs0 ca0)) (
  (l_iload (show gPG 219 37 = some (.iload 4) by decide +kernel) rfl).trans <|
  (l_iconst (show gPG 219 39 = some (.iconst 0) by decide +kernel) (c := 0) (by decide +kernel)).trans <|
  (l_aload (show gPG 219 40 = some (.aload 5) by decide +kernel) rfl hs0).trans <|
  l_callV (u := 1) (v := s0) (as := []) (show gPG 219 42 = some (jinvI 1 179) by decide +kernel) (by decide) (cc := 281) (na := 1) (kd := 0) (q4 := 0) (z := 10) (rest := [.int 0, .int i4]) (by decide +kernel) (by decide +kernel)  rfl (show (1 : Nat) ≤ 3 by decide) rfl (csi (csi cs0)) (by decide +kernel) (cav hs0 ca0))
theorem b219_36 (d : Nat) (μ : jM) (u0 : Value) (u1 : Value) (u2 : Value) (u3 : Value) (u4 : Value) (u5 : Value) (s0 : Int32) : jR d 219 36 [u0, u1, u2, u3, u4, u5] [.int s0] μ = some (some (.int s0), μ) :=
  l_iret1 (show gPG 219 36 = some (.ireturn) by decide +kernel) (by decide +kernel)
theorem b219_45 (d : Nat) (μ : jM) (u0 : Value) (u1 : Value) (u2 : Value) (u3 : Value) (i4 : Int32) (r5 : Value) (s0 : Int32) (s1 : Int32) (s2 : Int32) (h5 : jisref r5 = true) : jR (d + 1) 219 45 [u0, u1, u2, u3, .int i4, r5] [.int s2, .int s1, .int s0] μ = (jC d 165 [.int s0, .int s1, .int (s2 - 1)] μ).bind fun p1 => jR (d + 1) 219 50 [u0, u1, u2, u3, .int i4, r5] (p1.1.toList ++ []) p1.2 :=
  (l_iconst (show gPG 219 45 = some (.iconst 1) by decide +kernel) (c := 1) (by decide +kernel)).trans <|
  (l_isub (show gPG 219 46 = some (.isub) by decide +kernel) ).trans <|
  l_callS (u := 2) (as := [.int s0, .int s1, .int (s2 - 1)]) (show gPG 219 47 = some (jinvI 2 125) by decide +kernel) (by decide) (cc := 165) (na := 3) (q4 := 0) (z := 12) (rest := []) (by decide +kernel) (by decide +kernel)  rfl (show (3 : Nat) ≤ 3 by decide) rfl cs0 (by decide +kernel) (cai (cai (cai ca0))) (fun e => absurd e (by decide))
theorem b219_50 (d : Nat) (μ : jM) (u0 : Value) (u1 : Value) (u2 : Value) (u3 : Value) (i4 : Int32) (r5 : Value) (s0 : Int32) (h5 : jisref r5 = true) : jR (d + 1) 219 50 [u0, u1, u2, u3, .int i4, r5] [.int s0] μ = (if s0 = 0 then jR (d + 1) 219 65 [u0, u1, u2, u3, .int i4, r5] [.int (-12)] μ else (if jrecv μ 0 r5 = true then (jC d 283 [r5, .int i4] μ).bind fun p1 => jR (d + 1) 219 60 [u0, u1, u2, u3, .int i4, r5] (p1.1.toList ++ []) p1.2 else none)) :=
  (l_cmp0 (show gPG 219 50 = some (.ifCond .eq 13) by decide +kernel) (t := 63) (by decide +kernel)).trans <| jm_eq.trans <| ite_cg (
  l_bipush (show gPG 219 63 = some (.bipush (-12)) by decide +kernel) (c := (-12)) (by decide +kernel)) (
  (l_aload (show gPG 219 53 = some (.aload 5) by decide +kernel) rfl h5).trans <|
  (l_iload (show gPG 219 55 = some (.iload 4) by decide +kernel) rfl).trans <|
  l_callV (u := 1) (v := r5) (as := [.int i4]) (show gPG 219 57 = some (jinvI 1 191) by decide +kernel) (by decide) (cc := 283) (na := 2) (kd := 0) (q4 := 0) (z := 10) (rest := []) (by decide +kernel) (by decide +kernel)  rfl (show (2 : Nat) ≤ 2 by decide) rfl cs0 (by decide +kernel) (cai (cav h5 ca0)))
theorem b219_60 (d : Nat) (μ : jM) (u0 : Value) (u1 : Value) (u2 : Value) (u3 : Value) (u4 : Value) (u5 : Value) (s0 : Int32) : jR d 219 60 [u0, u1, u2, u3, u4, u5] [.int s0] μ = jR d 219 65 [u0, u1, u2, u3, u4, u5] [.int s0] μ :=
  l_goto (show gPG 219 60 = some (.goto 5) by decide +kernel) (t := 65) (by decide +kernel)
theorem b219_65 (d : Nat) (μ : jM) (u0 : Value) (u1 : Value) (u2 : Value) (u3 : Value) (u4 : Value) (u5 : Value) (s0 : Int32) : jR d 219 65 [u0, u1, u2, u3, u4, u5] [.int s0] μ = some (some (.int s0), μ) :=
  l_iret1 (show gPG 219 65 = some (.ireturn) by decide +kernel) (by decide +kernel)
-- Ref.textOf
theorem b220_0 (d : Nat) (μ : jM) (a : Nat) (i1 : Int32) (i2 : Int32) (hx : jX μ) : jR (d + 1) 220 0 [.ref a, .int i1, .int i2, .retAddr 0, .retAddr 0, .retAddr 0] [] μ = (jgR μ 13 2 (.ref a)).bind fun w1 => (jaR μ w1 i1).bind fun w2 => (jaI μ w2 i2).bind fun x3 => (if x3 = 2 then (jgR μ 13 5 (.ref a)).bind fun w4 => (jaR μ w4 i1).bind fun w5 => (jaR μ w5 i2).bind fun w6 => jR (d + 1) 220 74 [.ref a, .int i1, .int i2, (jext μ 22), w6, .int 0] [] μ else (jgR μ 13 2 (.ref a)).bind fun w7 => (jaR μ w7 i1).bind fun w8 => (jaI μ w8 i2).bind fun x9 => (if x9 = 0 then jR (d + 1) 220 56 [.ref a, .int i1, .int i2, .retAddr 0, .retAddr 0, .retAddr 0] [(jext μ 21)] μ else (jC d 291 [(.ref (jsz μ))] ((jnew μ 1 0 4))).bind fun p10 => jR (d + 1) 220 36 [.ref a, .int i1, .int i2, .retAddr 0, .retAddr 0, .retAddr 0] (p10.1.toList ++ [(.ref (jsz μ))]) p10.2)) :=
  (l_aload_n (show gPG 220 0 = some (.aload_n 0) by decide +kernel) rfl jr_ref).trans <|
  (l_gR (show gPG 220 1 = some (.getfield 20) by decide +kernel) (kd := 13) (sl := 2) (tc := 1) (fin := 1) (z := 0) (by decide +kernel) (by decide +kernel) (by decide +kernel)).trans <| bd_cg fun w1 hw1 =>
  (l_iload_n (show gPG 220 4 = some (.iload_n 1) by decide +kernel) rfl).trans <|
  (l_aald (show gPG 220 5 = some (.aaload) by decide +kernel) ).trans <| bd_cg fun w2 hw2 =>
  (l_iload_n (show gPG 220 6 = some (.iload_n 2) by decide +kernel) rfl).trans <|
  (l_iald (show gPG 220 7 = some (.iaload) by decide +kernel) ).trans <| bd_cg fun x3 hx3 =>
  (l_iconst (show gPG 220 8 = some (.iconst 2) by decide +kernel) (c := 2) (by decide +kernel)).trans <|
  (l_cmp (show gPG 220 9 = some (.if_icmp .eq 48) by decide +kernel) (t := 57) (by decide +kernel)).trans <| jm_eq.trans <| ite_cg (
  (l_ldcws (show gPG 220 57 = some (.ldc_w 399) by decide +kernel) (j := 22) (by decide +kernel) (by decide +kernel)).trans <|
  (l_astore_n (show gPG 220 60 = some (.astore_n 3) by decide +kernel) (ls := [.ref a, .int i1, .int i2, .retAddr 0, .retAddr 0, .retAddr 0]) (hx.2 22 (by decide) (by decide)) (show (3 : Nat) < 6 by decide) (show _ = ([.ref a, .int i1, .int i2, (jext μ 22), .retAddr 0, .retAddr 0] : List Value) from rfl)).trans <|
  (l_aload_n (show gPG 220 61 = some (.aload_n 0) by decide +kernel) rfl jr_ref).trans <|
  (l_gR (show gPG 220 62 = some (.getfield 31) by decide +kernel) (kd := 13) (sl := 5) (tc := 1) (fin := 1) (z := 0) (by decide +kernel) (by decide +kernel) (by decide +kernel)).trans <| bd_cg fun w4 hw4 =>
  (l_iload_n (show gPG 220 65 = some (.iload_n 1) by decide +kernel) rfl).trans <|
  (l_aald (show gPG 220 66 = some (.aaload) by decide +kernel) ).trans <| bd_cg fun w5 hw5 =>
  (l_iload_n (show gPG 220 67 = some (.iload_n 2) by decide +kernel) rfl).trans <|
  (l_aald (show gPG 220 68 = some (.aaload) by decide +kernel) ).trans <| bd_cg fun w6 hw6 =>
  (l_astore (show gPG 220 69 = some (.astore 4) by decide +kernel) (ls := [.ref a, .int i1, .int i2, (jext μ 22), .retAddr 0, .retAddr 0]) (jr_aR hw6) (show (4 : Nat) < 6 by decide) (show _ = ([.ref a, .int i1, .int i2, (jext μ 22), w6, .retAddr 0] : List Value) from rfl)).trans <|
  (l_iconst (show gPG 220 71 = some (.iconst 0) by decide +kernel) (c := 0) (by decide +kernel)).trans <|
  l_istore (show gPG 220 72 = some (.istore 5) by decide +kernel) (ls := [.ref a, .int i1, .int i2, (jext μ 22), w6, .retAddr 0]) (show (5 : Nat) < 6 by decide) (show _ = ([.ref a, .int i1, .int i2, (jext μ 22), w6, .int 0] : List Value) from rfl)) (
  (l_aload_n (show gPG 220 12 = some (.aload_n 0) by decide +kernel) rfl jr_ref).trans <|
  (l_gR (show gPG 220 13 = some (.getfield 20) by decide +kernel) (kd := 13) (sl := 2) (tc := 1) (fin := 1) (z := 0) (by decide +kernel) (by decide +kernel) (by decide +kernel)).trans <| bd_cg fun w7 hw7 =>
  (l_iload_n (show gPG 220 16 = some (.iload_n 1) by decide +kernel) rfl).trans <|
  (l_aald (show gPG 220 17 = some (.aaload) by decide +kernel) ).trans <| bd_cg fun w8 hw8 =>
  (l_iload_n (show gPG 220 18 = some (.iload_n 2) by decide +kernel) rfl).trans <|
  (l_iald (show gPG 220 19 = some (.iaload) by decide +kernel) ).trans <| bd_cg fun x9 hx9 =>
  (l_cmp0 (show gPG 220 20 = some (.ifCond .ne 9) by decide +kernel) (t := 29) (by decide +kernel)).trans <| jm_ne.trans <| ite_cg (
  (l_ldcws (show gPG 220 23 = some (.ldc_w 383) by decide +kernel) (j := 21) (by decide +kernel) (by decide +kernel)).trans <|
  l_goto (show gPG 220 26 = some (.goto 30) by decide +kernel) (t := 56) (by decide +kernel)) (
  (l_new (show gPG 220 29 = some (.new 378) by decide +kernel) (kd := 1) (wd := 4) (q3 := 0) (q4 := 0) (by decide +kernel)).trans <|
  (l_dup (show gPG 220 32 = some (.dup) by decide +kernel) (jr_cat1 jr_ref)).trans <|
  l_callS (u := 3) (as := [(.ref (jsz μ))]) (show gPG 220 33 = some (jinvI 3 380) by decide +kernel) (by decide) (cc := 291) (na := 1) (q4 := 0) (z := 14) (rest := [(.ref (jsz μ))]) (by decide +kernel) (by decide +kernel)  rfl (show (1 : Nat) ≤ 2 by decide) rfl (csv jr_ref cs0) (by decide +kernel) (cav jr_ref ca0) (fun _ => ⟨_, _, rfl⟩)))
theorem b220_36 (d : Nat) (μ : jM) (a : Nat) (i1 : Int32) (i2 : Int32) (u3 : Value) (u4 : Value) (u5 : Value) (s0 : Nat) (hx : jX μ) : jR (d + 1) 220 36 [.ref a, .int i1, .int i2, u3, u4, u5] [(.ref s0)] μ = (if jrecv μ 1 ((.ref s0)) = true then (jC d 294 [(.ref s0), (jext μ 21)] μ).bind fun p1 => jR (d + 1) 220 42 [.ref a, .int i1, .int i2, u3, u4, u5] (p1.1.toList ++ []) p1.2 else none) :=
  (l_ldcws (show gPG 220 36 = some (.ldc_w 383) by decide +kernel) (j := 21) (by decide +kernel) (by decide +kernel)).trans <|
  l_callV (u := 1) (v := (.ref s0)) (as := [(jext μ 21)]) (show gPG 220 39 = some (jinvI 1 385) by decide +kernel) (by decide) (cc := 294) (na := 2) (kd := 1) (q4 := 0) (z := 10) (rest := []) (by decide +kernel) (by decide +kernel)  rfl (show (2 : Nat) ≤ 2 by decide) rfl cs0 (by decide +kernel) (cav (hx.2 21 (by decide) (by decide)) (cav jr_ref ca0))
theorem b220_42 (d : Nat) (μ : jM) (a : Nat) (i1 : Int32) (i2 : Int32) (u3 : Value) (u4 : Value) (u5 : Value) (s0 : Value) (hs0 : jisref s0 = true) : jR (d + 1) 220 42 [.ref a, .int i1, .int i2, u3, u4, u5] [s0] μ = (jgR μ 13 3 (.ref a)).bind fun w1 => (jaR μ w1 i1).bind fun w2 => (jaI μ w2 i2).bind fun x3 => (if jrecv μ 1 s0 = true then (jC d 293 [s0, .int x3] μ).bind fun p4 => jR (d + 1) 220 53 [.ref a, .int i1, .int i2, u3, u4, u5] (p4.1.toList ++ []) p4.2 else none) :=
  (l_aload_n (show gPG 220 42 = some (.aload_n 0) by decide +kernel) rfl jr_ref).trans <|
  (l_gR (show gPG 220 43 = some (.getfield 23) by decide +kernel) (kd := 13) (sl := 3) (tc := 1) (fin := 1) (z := 0) (by decide +kernel) (by decide +kernel) (by decide +kernel)).trans <| bd_cg fun w1 hw1 =>
  (l_iload_n (show gPG 220 46 = some (.iload_n 1) by decide +kernel) rfl).trans <|
  (l_aald (show gPG 220 47 = some (.aaload) by decide +kernel) ).trans <| bd_cg fun w2 hw2 =>
  (l_iload_n (show gPG 220 48 = some (.iload_n 2) by decide +kernel) rfl).trans <|
  (l_iald (show gPG 220 49 = some (.iaload) by decide +kernel) ).trans <| bd_cg fun x3 hx3 =>
  l_callV (u := 1) (v := s0) (as := [.int x3]) (show gPG 220 50 = some (jinvI 1 392) by decide +kernel) (by decide) (cc := 293) (na := 2) (kd := 1) (q4 := 0) (z := 10) (rest := []) (by decide +kernel) (by decide +kernel)  rfl (show (2 : Nat) ≤ 2 by decide) rfl cs0 (by decide +kernel) (cai (cav hs0 ca0))
theorem b220_53 (d : Nat) (μ : jM) (u0 : Value) (u1 : Value) (u2 : Value) (u3 : Value) (u4 : Value) (u5 : Value) (s0 : Value) (hs0 : jisref s0 = true) : jR (d + 1) 220 53 [u0, u1, u2, u3, u4, u5] [s0] μ = (if jrecv μ 1 s0 = true then (jC d 297 [s0] μ).bind fun p1 => jR (d + 1) 220 56 [u0, u1, u2, u3, u4, u5] (p1.1.toList ++ []) p1.2 else none) :=
  l_callV (u := 1) (v := s0) (as := []) (show gPG 220 53 = some (jinvI 1 395) by decide +kernel) (by decide) (cc := 297) (na := 1) (kd := 1) (q4 := 0) (z := 10) (rest := []) (by decide +kernel) (by decide +kernel)  rfl (show (1 : Nat) ≤ 1 by decide) rfl cs0 (by decide +kernel) (cav hs0 ca0)
theorem b220_56 (d : Nat) (μ : jM) (u0 : Value) (u1 : Value) (u2 : Value) (u3 : Value) (u4 : Value) (u5 : Value) (s0 : Value) (hs0 : jisref s0 = true) : jR d 220 56 [u0, u1, u2, u3, u4, u5] [s0] μ = some (some s0, μ) :=
  l_aret (show gPG 220 56 = some (.areturn) by decide +kernel) (by decide +kernel) hs0
theorem b220_74 (d : Nat) (μ : jM) (a : Nat) (i1 : Int32) (u2 : Value) (r3 : Value) (r4 : Value) (i5 : Int32) (h3 : jisref r3 = true) (h4 : jisref r4 = true) : jR (d + 1) 220 74 [.ref a, .int i1, u2, r3, r4, .int i5] [] μ = (jal μ r4).bind fun x1 => (if i5 < x1 then (jC d 291 [(.ref (jsz μ))] ((jnew μ 1 0 4))).bind fun p2 => jR (d + 1) 220 89 [.ref a, .int i1, u2, r3, r4, .int i5] (p2.1.toList ++ [(.ref (jsz μ))]) p2.2 else some (some r3, μ)) :=
  (l_iload (show gPG 220 74 = some (.iload 5) by decide +kernel) rfl).trans <|
  (l_aload (show gPG 220 76 = some (.aload 4) by decide +kernel) rfl h4).trans <|
  (l_alen (show gPG 220 78 = some (.arraylength) by decide +kernel) ).trans <| bd_cg fun x1 hx1 =>
  (l_cmp (show gPG 220 79 = some (.if_icmp .ge 137) by decide +kernel) (t := 216) (by decide +kernel)).trans <| jm_ge.trans <| ite_cg (
  (l_new (show gPG 220 82 = some (.new 378) by decide +kernel) (kd := 1) (wd := 4) (q3 := 0) (q4 := 0) (by decide +kernel)).trans <|
  (l_dup (show gPG 220 85 = some (.dup) by decide +kernel) (jr_cat1 jr_ref)).trans <|
  l_callS (u := 3) (as := [(.ref (jsz μ))]) (show gPG 220 86 = some (jinvI 3 380) by decide +kernel) (by decide) (cc := 291) (na := 1) (q4 := 0) (z := 14) (rest := [(.ref (jsz μ))]) (by decide +kernel) (by decide +kernel)  rfl (show (1 : Nat) ≤ 2 by decide) rfl (csv jr_ref cs0) (by decide +kernel) (cav jr_ref ca0) (fun _ => ⟨_, _, rfl⟩)) (
  (l_aload_n (show gPG 220 216 = some (.aload_n 3) by decide +kernel) rfl h3).trans <|
  l_aret (show gPG 220 217 = some (.areturn) by decide +kernel) (by decide +kernel) h3)
theorem b220_89 (d : Nat) (μ : jM) (a : Nat) (i1 : Int32) (u2 : Value) (r3 : Value) (r4 : Value) (i5 : Int32) (s0 : Nat) (h3 : jisref r3 = true) (h4 : jisref r4 = true) : jR (d + 1) 220 89 [.ref a, .int i1, u2, r3, r4, .int i5] [(.ref s0)] μ = (if jrecv μ 1 ((.ref s0)) = true then (jC d 294 [(.ref s0), r3] μ).bind fun p1 => jR (d + 1) 220 93 [.ref a, .int i1, u2, r3, r4, .int i5] (p1.1.toList ++ []) p1.2 else none) :=
  (l_aload_n (show gPG 220 89 = some (.aload_n 3) by decide +kernel) rfl h3).trans <|
  l_callV (u := 1) (v := (.ref s0)) (as := [r3]) (show gPG 220 90 = some (jinvI 1 385) by decide +kernel) (by decide) (cc := 294) (na := 2) (kd := 1) (q4 := 0) (z := 10) (rest := []) (by decide +kernel) (by decide +kernel)  rfl (show (2 : Nat) ≤ 2 by decide) rfl cs0 (by decide +kernel) (cav h3 (cav jr_ref ca0))
theorem b220_93 (d : Nat) (μ : jM) (a : Nat) (i1 : Int32) (u2 : Value) (u3 : Value) (r4 : Value) (i5 : Int32) (s0 : Value) (h4 : jisref r4 = true) (hs0 : jisref s0 = true) : jR (d + 1) 220 93 [.ref a, .int i1, u2, u3, r4, .int i5] [s0] μ = (jaI μ r4 i5).bind fun x1 => (if x1 = 0 then (jC d 291 [(.ref (jsz μ))] ((jnew μ 1 0 4))).bind fun p9 => jR (d + 1) 220 108 [.ref a, .int i1, u2, u3, r4, .int i5] (p9.1.toList ++ [(.ref (jsz μ)), s0]) p9.2 else (jaI μ r4 i5).bind fun x2 => (if x2 = 1 then (jC d 291 [(.ref (jsz μ))] ((jnew μ 1 0 4))).bind fun p8 => jR (d + 1) 220 146 [.ref a, .int i1, u2, u3, r4, .int i5] (p8.1.toList ++ [(.ref (jsz μ)), s0]) p8.2 else (jaI μ r4 i5).bind fun x3 => (if x3 = 2 then (jaI μ r4 (i5 + 1)).bind fun x6 => (jC d 176 [.int x6] μ).bind fun p7 => jR (d + 1) 220 188 [.ref a, .int i1, u2, u3, r4, .int i5] (p7.1.toList ++ [s0]) p7.2 else (jaI μ r4 (i5 + 1)).bind fun x4 => (if jrecv μ 13 (.ref a) = true then (jC d 221 [.ref a, .int i1, .int x4] μ).bind fun p5 => jR (d + 1) 220 203 [.ref a, .int i1, u2, u3, r4, .int i5] (p5.1.toList ++ [s0]) p5.2 else none)))) :=
  (l_aload (show gPG 220 93 = some (.aload 4) by decide +kernel) rfl h4).trans <|
  (l_iload (show gPG 220 95 = some (.iload 5) by decide +kernel) rfl).trans <|
  (l_iald (show gPG 220 97 = some (.iaload) by decide +kernel) ).trans <| bd_cg fun x1 hx1 =>
  (l_cmp0 (show gPG 220 98 = some (.ifCond .ne 32) by decide +kernel) (t := 130) (by decide +kernel)).trans <| jm_ne.trans <| ite_cg (
  (l_new (show gPG 220 101 = some (.new 378) by decide +kernel) (kd := 1) (wd := 4) (q3 := 0) (q4 := 0) (by decide +kernel)).trans <|
  (l_dup (show gPG 220 104 = some (.dup) by decide +kernel) (jr_cat1 jr_ref)).trans <|
  l_callS (u := 3) (as := [(.ref (jsz μ))]) (show gPG 220 105 = some (jinvI 3 380) by decide +kernel) (by decide) (cc := 291) (na := 1) (q4 := 0) (z := 14) (rest := [(.ref (jsz μ)), s0]) (by decide +kernel) (by decide +kernel)  rfl (show (1 : Nat) ≤ 3 by decide) rfl (csv jr_ref (csv hs0 cs0)) (by decide +kernel) (cav jr_ref ca0) (fun _ => ⟨_, _, rfl⟩)) (
  (l_aload (show gPG 220 130 = some (.aload 4) by decide +kernel) rfl h4).trans <|
  (l_iload (show gPG 220 132 = some (.iload 5) by decide +kernel) rfl).trans <|
  (l_iald (show gPG 220 134 = some (.iaload) by decide +kernel) ).trans <| bd_cg fun x2 hx2 =>
  (l_iconst (show gPG 220 135 = some (.iconst 1) by decide +kernel) (c := 1) (by decide +kernel)).trans <|
  (l_cmp (show gPG 220 136 = some (.if_icmp .ne 33) by decide +kernel) (t := 169) (by decide +kernel)).trans <| jm_ne.trans <| ite_cg (
  (l_new (show gPG 220 139 = some (.new 378) by decide +kernel) (kd := 1) (wd := 4) (q3 := 0) (q4 := 0) (by decide +kernel)).trans <|
  (l_dup (show gPG 220 142 = some (.dup) by decide +kernel) (jr_cat1 jr_ref)).trans <|
  l_callS (u := 3) (as := [(.ref (jsz μ))]) (show gPG 220 143 = some (jinvI 3 380) by decide +kernel) (by decide) (cc := 291) (na := 1) (q4 := 0) (z := 14) (rest := [(.ref (jsz μ)), s0]) (by decide +kernel) (by decide +kernel)  rfl (show (1 : Nat) ≤ 3 by decide) rfl (csv jr_ref (csv hs0 cs0)) (by decide +kernel) (cav jr_ref ca0) (fun _ => ⟨_, _, rfl⟩)) (
  (l_aload (show gPG 220 169 = some (.aload 4) by decide +kernel) rfl h4).trans <|
  (l_iload (show gPG 220 171 = some (.iload 5) by decide +kernel) rfl).trans <|
  (l_iald (show gPG 220 173 = some (.iaload) by decide +kernel) ).trans <| bd_cg fun x3 hx3 =>
  (l_iconst (show gPG 220 174 = some (.iconst 2) by decide +kernel) (c := 2) (by decide +kernel)).trans <|
  (l_cmp (show gPG 220 175 = some (.if_icmp .ne 16) by decide +kernel) (t := 191) (by decide +kernel)).trans <| jm_ne.trans <| ite_cg (
  (l_aload (show gPG 220 178 = some (.aload 4) by decide +kernel) rfl h4).trans <|
  (l_iload (show gPG 220 180 = some (.iload 5) by decide +kernel) rfl).trans <|
  (l_iconst (show gPG 220 182 = some (.iconst 1) by decide +kernel) (c := 1) (by decide +kernel)).trans <|
  (l_iadd (show gPG 220 183 = some (.iadd) by decide +kernel) ).trans <|
  (l_iald (show gPG 220 184 = some (.iaload) by decide +kernel) ).trans <| bd_cg fun x6 hx6 =>
  l_callS (u := 2) (as := [.int x6]) (show gPG 220 185 = some (jinvI 2 210) by decide +kernel) (by decide) (cc := 176) (na := 1) (q4 := 0) (z := 12) (rest := [s0]) (by decide +kernel) (by decide +kernel)  rfl (show (1 : Nat) ≤ 2 by decide) rfl (csv hs0 cs0) (by decide +kernel) (cai ca0) (fun e => absurd e (by decide))) (
  (l_aload_n (show gPG 220 191 = some (.aload_n 0) by decide +kernel) rfl jr_ref).trans <|
  (l_iload_n (show gPG 220 192 = some (.iload_n 1) by decide +kernel) rfl).trans <|
  (l_aload (show gPG 220 193 = some (.aload 4) by decide +kernel) rfl h4).trans <|
  (l_iload (show gPG 220 195 = some (.iload 5) by decide +kernel) rfl).trans <|
  (l_iconst (show gPG 220 197 = some (.iconst 1) by decide +kernel) (c := 1) (by decide +kernel)).trans <|
  (l_iadd (show gPG 220 198 = some (.iadd) by decide +kernel) ).trans <|
  (l_iald (show gPG 220 199 = some (.iaload) by decide +kernel) ).trans <| bd_cg fun x4 hx4 =>
  l_callV (u := 1) (v := .ref a) (as := [.int i1, .int x4]) (show gPG 220 200 = some (jinvI 1 401) by decide +kernel) (by decide) (cc := 221) (na := 3) (kd := 13) (q4 := 0) (z := 10) (rest := [s0]) (by decide +kernel) (by decide +kernel)  rfl (show (3 : Nat) ≤ 4 by decide) rfl (csv hs0 cs0) (by decide +kernel) (cai (cai (cav jr_ref ca0))))))
theorem b220_108 (d : Nat) (μ : jM) (a : Nat) (i1 : Int32) (u2 : Value) (u3 : Value) (r4 : Value) (i5 : Int32) (s0 : Value) (s1 : Nat) (h4 : jisref r4 = true) (hs0 : jisref s0 = true) (hx : jX μ) : jR (d + 1) 220 108 [.ref a, .int i1, u2, u3, r4, .int i5] [(.ref s1), s0] μ = (if jrecv μ 1 ((.ref s1)) = true then (jC d 294 [(.ref s1), (jext μ 21)] μ).bind fun p1 => jR (d + 1) 220 114 [.ref a, .int i1, u2, u3, r4, .int i5] (p1.1.toList ++ [s0]) p1.2 else none) :=
  (l_ldcws (show gPG 220 108 = some (.ldc_w 383) by decide +kernel) (j := 21) (by decide +kernel) (by decide +kernel)).trans <|
  l_callV (u := 1) (v := (.ref s1)) (as := [(jext μ 21)]) (show gPG 220 111 = some (jinvI 1 385) by decide +kernel) (by decide) (cc := 294) (na := 2) (kd := 1) (q4 := 0) (z := 10) (rest := [s0]) (by decide +kernel) (by decide +kernel)  rfl (show (2 : Nat) ≤ 3 by decide) rfl (csv hs0 cs0) (by decide +kernel) (cav (hx.2 21 (by decide) (by decide)) (cav jr_ref ca0))
theorem b220_114 (d : Nat) (μ : jM) (a : Nat) (i1 : Int32) (u2 : Value) (u3 : Value) (r4 : Value) (i5 : Int32) (s0 : Value) (s1 : Value) (h4 : jisref r4 = true) (hs0 : jisref s0 = true) (hs1 : jisref s1 = true) : jR (d + 1) 220 114 [.ref a, .int i1, u2, u3, r4, .int i5] [s1, s0] μ = (jaI μ r4 (i5 + 1)).bind fun x1 => (if jrecv μ 1 s1 = true then (jC d 293 [s1, .int x1] μ).bind fun p2 => jR (d + 1) 220 124 [.ref a, .int i1, u2, u3, r4, .int i5] (p2.1.toList ++ [s0]) p2.2 else none) :=
  (l_aload (show gPG 220 114 = some (.aload 4) by decide +kernel) rfl h4).trans <|
  (l_iload (show gPG 220 116 = some (.iload 5) by decide +kernel) rfl).trans <|
  (l_iconst (show gPG 220 118 = some (.iconst 1) by decide +kernel) (c := 1) (by decide +kernel)).trans <|
  (l_iadd (show gPG 220 119 = some (.iadd) by decide +kernel) ).trans <|
  (l_iald (show gPG 220 120 = some (.iaload) by decide +kernel) ).trans <| bd_cg fun x1 hx1 =>
  l_callV (u := 1) (v := s1) (as := [.int x1]) (show gPG 220 121 = some (jinvI 1 392) by decide +kernel) (by decide) (cc := 293) (na := 2) (kd := 1) (q4 := 0) (z := 10) (rest := [s0]) (by decide +kernel) (by decide +kernel)  rfl (show (2 : Nat) ≤ 3 by decide) rfl (csv hs0 cs0) (by decide +kernel) (cai (cav hs1 ca0))
theorem b220_124 (d : Nat) (μ : jM) (a : Nat) (i1 : Int32) (u2 : Value) (u3 : Value) (r4 : Value) (i5 : Int32) (s0 : Value) (s1 : Value) (h4 : jisref r4 = true) (hs0 : jisref s0 = true) (hs1 : jisref s1 = true) : jR (d + 1) 220 124 [.ref a, .int i1, u2, u3, r4, .int i5] [s1, s0] μ = (if jrecv μ 1 s1 = true then (jC d 297 [s1] μ).bind fun p1 => jR (d + 1) 220 127 [.ref a, .int i1, u2, u3, r4, .int i5] (p1.1.toList ++ [s0]) p1.2 else none) :=
  l_callV (u := 1) (v := s1) (as := []) (show gPG 220 124 = some (jinvI 1 395) by decide +kernel) (by decide) (cc := 297) (na := 1) (kd := 1) (q4 := 0) (z := 10) (rest := [s0]) (by decide +kernel) (by decide +kernel)  rfl (show (1 : Nat) ≤ 2 by decide) rfl (csv hs0 cs0) (by decide +kernel) (cav hs1 ca0)
theorem b220_127 (d : Nat) (μ : jM) (a : Nat) (i1 : Int32) (u2 : Value) (u3 : Value) (r4 : Value) (i5 : Int32) (s0 : Value) (s1 : Value) (h4 : jisref r4 = true) (hs0 : jisref s0 = true) (hs1 : jisref s1 = true) : jR d 220 127 [.ref a, .int i1, u2, u3, r4, .int i5] [s1, s0] μ = jR d 220 203 [.ref a, .int i1, u2, u3, r4, .int i5] [s1, s0] μ :=
  l_goto (show gPG 220 127 = some (.goto 76) by decide +kernel) (t := 203) (by decide +kernel)
theorem b220_146 (d : Nat) (μ : jM) (a : Nat) (i1 : Int32) (u2 : Value) (u3 : Value) (r4 : Value) (i5 : Int32) (s0 : Value) (s1 : Nat) (h4 : jisref r4 = true) (hs0 : jisref s0 = true) (hx : jX μ) : jR (d + 1) 220 146 [.ref a, .int i1, u2, u3, r4, .int i5] [(.ref s1), s0] μ = (if jrecv μ 1 ((.ref s1)) = true then (jC d 294 [(.ref s1), (jext μ 21)] μ).bind fun p1 => jR (d + 1) 220 152 [.ref a, .int i1, u2, u3, r4, .int i5] (p1.1.toList ++ [s0]) p1.2 else none) :=
  (l_ldcws (show gPG 220 146 = some (.ldc_w 383) by decide +kernel) (j := 21) (by decide +kernel) (by decide +kernel)).trans <|
  l_callV (u := 1) (v := (.ref s1)) (as := [(jext μ 21)]) (show gPG 220 149 = some (jinvI 1 385) by decide +kernel) (by decide) (cc := 294) (na := 2) (kd := 1) (q4 := 0) (z := 10) (rest := [s0]) (by decide +kernel) (by decide +kernel)  rfl (show (2 : Nat) ≤ 3 by decide) rfl (csv hs0 cs0) (by decide +kernel) (cav (hx.2 21 (by decide) (by decide)) (cav jr_ref ca0))
theorem b220_152 (d : Nat) (μ : jM) (a : Nat) (i1 : Int32) (u2 : Value) (u3 : Value) (r4 : Value) (i5 : Int32) (s0 : Value) (s1 : Value) (h4 : jisref r4 = true) (hs0 : jisref s0 = true) (hs1 : jisref s1 = true) : jR (d + 1) 220 152 [.ref a, .int i1, u2, u3, r4, .int i5] [s1, s0] μ = (jaI μ r4 (i5 + 1)).bind fun x1 => (if jrecv μ 1 s1 = true then (jC d 292 [s1, .int ((Int32.toUInt32 x1 % 65536).toInt32)] μ).bind fun p2 => jR (d + 1) 220 163 [.ref a, .int i1, u2, u3, r4, .int i5] (p2.1.toList ++ [s0]) p2.2 else none) :=
  (l_aload (show gPG 220 152 = some (.aload 4) by decide +kernel) rfl h4).trans <|
  (l_iload (show gPG 220 154 = some (.iload 5) by decide +kernel) rfl).trans <|
  (l_iconst (show gPG 220 156 = some (.iconst 1) by decide +kernel) (c := 1) (by decide +kernel)).trans <|
  (l_iadd (show gPG 220 157 = some (.iadd) by decide +kernel) ).trans <|
  (l_iald (show gPG 220 158 = some (.iaload) by decide +kernel) ).trans <| bd_cg fun x1 hx1 =>
  (l_i2c (show gPG 220 159 = some (.i2c) by decide +kernel) ).trans <|
  l_callV (u := 1) (v := s1) (as := [.int ((Int32.toUInt32 x1 % 65536).toInt32)]) (show gPG 220 160 = some (jinvI 1 389) by decide +kernel) (by decide) (cc := 292) (na := 2) (kd := 1) (q4 := 0) (z := 10) (rest := [s0]) (by decide +kernel) (by decide +kernel)  rfl (show (2 : Nat) ≤ 3 by decide) rfl (csv hs0 cs0) (by decide +kernel) (cai (cav hs1 ca0))
theorem b220_163 (d : Nat) (μ : jM) (a : Nat) (i1 : Int32) (u2 : Value) (u3 : Value) (r4 : Value) (i5 : Int32) (s0 : Value) (s1 : Value) (h4 : jisref r4 = true) (hs0 : jisref s0 = true) (hs1 : jisref s1 = true) : jR (d + 1) 220 163 [.ref a, .int i1, u2, u3, r4, .int i5] [s1, s0] μ = (if jrecv μ 1 s1 = true then (jC d 297 [s1] μ).bind fun p1 => jR (d + 1) 220 166 [.ref a, .int i1, u2, u3, r4, .int i5] (p1.1.toList ++ [s0]) p1.2 else none) :=
  l_callV (u := 1) (v := s1) (as := []) (show gPG 220 163 = some (jinvI 1 395) by decide +kernel) (by decide) (cc := 297) (na := 1) (kd := 1) (q4 := 0) (z := 10) (rest := [s0]) (by decide +kernel) (by decide +kernel)  rfl (show (1 : Nat) ≤ 2 by decide) rfl (csv hs0 cs0) (by decide +kernel) (cav hs1 ca0)
theorem b220_166 (d : Nat) (μ : jM) (a : Nat) (i1 : Int32) (u2 : Value) (u3 : Value) (r4 : Value) (i5 : Int32) (s0 : Value) (s1 : Value) (h4 : jisref r4 = true) (hs0 : jisref s0 = true) (hs1 : jisref s1 = true) : jR d 220 166 [.ref a, .int i1, u2, u3, r4, .int i5] [s1, s0] μ = jR d 220 203 [.ref a, .int i1, u2, u3, r4, .int i5] [s1, s0] μ :=
  l_goto (show gPG 220 166 = some (.goto 37) by decide +kernel) (t := 203) (by decide +kernel)
theorem b220_188 (d : Nat) (μ : jM) (a : Nat) (i1 : Int32) (u2 : Value) (u3 : Value) (r4 : Value) (i5 : Int32) (s0 : Value) (s1 : Value) (h4 : jisref r4 = true) (hs0 : jisref s0 = true) (hs1 : jisref s1 = true) : jR d 220 188 [.ref a, .int i1, u2, u3, r4, .int i5] [s1, s0] μ = jR d 220 203 [.ref a, .int i1, u2, u3, r4, .int i5] [s1, s0] μ :=
  l_goto (show gPG 220 188 = some (.goto 15) by decide +kernel) (t := 203) (by decide +kernel)
theorem b220_203 (d : Nat) (μ : jM) (a : Nat) (i1 : Int32) (u2 : Value) (u3 : Value) (r4 : Value) (i5 : Int32) (s0 : Value) (s1 : Value) (h4 : jisref r4 = true) (hs0 : jisref s0 = true) (hs1 : jisref s1 = true) : jR (d + 1) 220 203 [.ref a, .int i1, u2, u3, r4, .int i5] [s1, s0] μ = (if jrecv μ 1 s0 = true then (jC d 294 [s0, s1] μ).bind fun p1 => jR (d + 1) 220 206 [.ref a, .int i1, u2, u3, r4, .int i5] (p1.1.toList ++ []) p1.2 else none) :=
  l_callV (u := 1) (v := s0) (as := [s1]) (show gPG 220 203 = some (jinvI 1 385) by decide +kernel) (by decide) (cc := 294) (na := 2) (kd := 1) (q4 := 0) (z := 10) (rest := []) (by decide +kernel) (by decide +kernel)  rfl (show (2 : Nat) ≤ 2 by decide) rfl cs0 (by decide +kernel) (cav hs1 (cav hs0 ca0))
theorem b220_206 (d : Nat) (μ : jM) (a : Nat) (i1 : Int32) (u2 : Value) (u3 : Value) (r4 : Value) (i5 : Int32) (s0 : Value) (h4 : jisref r4 = true) (hs0 : jisref s0 = true) : jR (d + 1) 220 206 [.ref a, .int i1, u2, u3, r4, .int i5] [s0] μ = (if jrecv μ 1 s0 = true then (jC d 297 [s0] μ).bind fun p1 => jR (d + 1) 220 209 [.ref a, .int i1, u2, u3, r4, .int i5] (p1.1.toList ++ []) p1.2 else none) :=
  l_callV (u := 1) (v := s0) (as := []) (show gPG 220 206 = some (jinvI 1 395) by decide +kernel) (by decide) (cc := 297) (na := 1) (kd := 1) (q4 := 0) (z := 10) (rest := []) (by decide +kernel) (by decide +kernel)  rfl (show (1 : Nat) ≤ 1 by decide) rfl cs0 (by decide +kernel) (cav hs0 ca0)
theorem b220_209 (d : Nat) (μ : jM) (a : Nat) (i1 : Int32) (u2 : Value) (u3 : Value) (r4 : Value) (i5 : Int32) (s0 : Value) (h4 : jisref r4 = true) (hs0 : jisref s0 = true) : jR d 220 209 [.ref a, .int i1, u2, u3, r4, .int i5] [s0] μ = jR d 220 74 [.ref a, .int i1, u2, s0, r4, .int (i5 + 2)] [] μ :=
  (l_astore_n (show gPG 220 209 = some (.astore_n 3) by decide +kernel) (ls := [.ref a, .int i1, u2, u3, r4, .int i5]) hs0 (show (3 : Nat) < 6 by decide) (show _ = ([.ref a, .int i1, u2, s0, r4, .int i5] : List Value) from rfl)).trans <|
  (l_iinc (show gPG 220 210 = some (.iinc 5 2) by decide +kernel) (c := 2) (by decide +kernel) rfl (show _ = ([.ref a, .int i1, u2, s0, r4, .int (i5 + 2)] : List Value) from rfl)).trans <|
  l_goto (show gPG 220 213 = some (.goto (-139)) by decide +kernel) (t := 74) (by decide +kernel)
-- Ref.refText
theorem b221_0 (d : Nat) (μ : jM) (a : Nat) (i1 : Int32) (i2 : Int32) : jR (d + 1) 221 0 [.ref a, .int i1, .int i2, .retAddr 0, .retAddr 0] [] μ = (if i2 = 0 then jR (d + 1) 221 17 [.ref a, .int i1, .int i2, .retAddr 0, .retAddr 0] [.int (-1)] μ else (if jrecv μ 13 (.ref a) = true then (jC d 194 [.ref a, .int i1, .int (i2 / 8)] μ).bind fun p1 => jR (d + 1) 221 17 [.ref a, .int i1, .int i2, .retAddr 0, .retAddr 0] (p1.1.toList ++ []) p1.2 else none)) :=
  (l_iload_n (show gPG 221 0 = some (.iload_n 2) by decide +kernel) rfl).trans <|
  (l_cmp0 (show gPG 221 1 = some (.ifCond .ne 7) by decide +kernel) (t := 8) (by decide +kernel)).trans <| jm_ne.trans <| ite_cg (
  (l_iconst (show gPG 221 4 = some (.iconst (-1)) by decide +kernel) (c := (-1)) (by decide +kernel)).trans <|
  l_goto (show gPG 221 5 = some (.goto 12) by decide +kernel) (t := 17) (by decide +kernel)) (
  (l_aload_n (show gPG 221 8 = some (.aload_n 0) by decide +kernel) rfl jr_ref).trans <|
  (l_iload_n (show gPG 221 9 = some (.iload_n 1) by decide +kernel) rfl).trans <|
  (l_iload_n (show gPG 221 10 = some (.iload_n 2) by decide +kernel) rfl).trans <|
  (l_bipush (show gPG 221 11 = some (.bipush 8) by decide +kernel) (c := 8) (by decide +kernel)).trans <|
  (l_idivK (show gPG 221 13 = some (.idiv) by decide +kernel) (by decide +kernel)).trans <|
  l_callV (u := 1) (v := .ref a) (as := [.int i1, .int (i2 / 8)]) (show gPG 221 14 = some (jinvI 1 301) by decide +kernel) (by decide) (cc := 194) (na := 3) (kd := 13) (q4 := 0) (z := 10) (rest := []) (by decide +kernel) (by decide +kernel)  rfl (show (3 : Nat) ≤ 3 by decide) rfl cs0 (by decide +kernel) (cai (cai (cav jr_ref ca0))))
theorem b221_17 (d : Nat) (μ : jM) (u0 : Value) (u1 : Value) (i2 : Int32) (u3 : Value) (u4 : Value) (s0 : Int32) (hx : jX μ) : jR (d + 1) 221 17 [u0, u1, .int i2, u3, u4] [.int s0] μ = (if s0 = (-1) then jR (d + 1) 221 83 [u0, u1, .int i2, .int s0, (jext μ 23)] [(jext μ 24)] μ else (jC d 291 [(.ref (jsz μ))] ((jnew μ 1 0 4))).bind fun p1 => jR (d + 1) 221 41 [u0, u1, .int i2, .int s0, (jext μ 23)] (p1.1.toList ++ [(.ref (jsz μ))]) p1.2) :=
  (l_istore_n (show gPG 221 17 = some (.istore_n 3) by decide +kernel) (ls := [u0, u1, .int i2, u3, u4]) (show (3 : Nat) < 5 by decide) (show _ = ([u0, u1, .int i2, .int s0, u4] : List Value) from rfl)).trans <|
  (l_ldcws (show gPG 221 18 = some (.ldc_w 374) by decide +kernel) (j := 23) (by decide +kernel) (by decide +kernel)).trans <|
  (l_astore (show gPG 221 21 = some (.astore 4) by decide +kernel) (ls := [u0, u1, .int i2, .int s0, u4]) (hx.2 23 (by decide) (by decide)) (show (4 : Nat) < 5 by decide) (show _ = ([u0, u1, .int i2, .int s0, (jext μ 23)] : List Value) from rfl)).trans <|
  (l_iload_n (show gPG 221 23 = some (.iload_n 3) by decide +kernel) rfl).trans <|
  (l_iconst (show gPG 221 24 = some (.iconst (-1)) by decide +kernel) (c := (-1)) (by decide +kernel)).trans <|
  (l_cmp (show gPG 221 25 = some (.if_icmp .ne 9) by decide +kernel) (t := 34) (by decide +kernel)).trans <| jm_ne.trans <| ite_cg (
  (l_ldcws (show gPG 221 28 = some (.ldc_w 376) by decide +kernel) (j := 24) (by decide +kernel) (by decide +kernel)).trans <|
  l_goto (show gPG 221 31 = some (.goto 52) by decide +kernel) (t := 83) (by decide +kernel)) (
  (l_new (show gPG 221 34 = some (.new 378) by decide +kernel) (kd := 1) (wd := 4) (q3 := 0) (q4 := 0) (by decide +kernel)).trans <|
  (l_dup (show gPG 221 37 = some (.dup) by decide +kernel) (jr_cat1 jr_ref)).trans <|
  l_callS (u := 3) (as := [(.ref (jsz μ))]) (show gPG 221 38 = some (jinvI 3 380) by decide +kernel) (by decide) (cc := 291) (na := 1) (q4 := 0) (z := 14) (rest := [(.ref (jsz μ))]) (by decide +kernel) (by decide +kernel)  rfl (show (1 : Nat) ≤ 2 by decide) rfl (csv jr_ref cs0) (by decide +kernel) (cav jr_ref ca0) (fun _ => ⟨_, _, rfl⟩))
theorem b221_41 (d : Nat) (μ : jM) (u0 : Value) (u1 : Value) (i2 : Int32) (i3 : Int32) (r4 : Value) (s0 : Nat) (h4 : jisref r4 = true) (hx : jX μ) : jR d 221 41 [u0, u1, .int i2, .int i3, r4] [(.ref s0)] μ = (if (i2 - i2 / 2 * 2) = 1 then jR d 221 57 [u0, u1, .int i2, .int i3, r4] [(jext μ 25), (.ref s0)] μ else jR d 221 57 [u0, u1, .int i2, .int i3, r4] [(jext μ 21), (.ref s0)] μ) :=
  (l_iload_n (show gPG 221 41 = some (.iload_n 2) by decide +kernel) rfl).trans <|
  (l_iconst (show gPG 221 42 = some (.iconst 2) by decide +kernel) (c := 2) (by decide +kernel)).trans <|
  (l_iremK (show gPG 221 43 = some (.irem) by decide +kernel) (by decide +kernel)).trans <|
  (l_iconst (show gPG 221 44 = some (.iconst 1) by decide +kernel) (c := 1) (by decide +kernel)).trans <|
  (l_cmp (show gPG 221 45 = some (.if_icmp .ne 9) by decide +kernel) (t := 54) (by decide +kernel)).trans <| jm_ne.trans <| ite_cg (
  (l_ldcws (show gPG 221 48 = some (.ldc_w 381) by decide +kernel) (j := 25) (by decide +kernel) (by decide +kernel)).trans <|
  l_goto (show gPG 221 51 = some (.goto 6) by decide +kernel) (t := 57) (by decide +kernel)) (
  l_ldcws (show gPG 221 54 = some (.ldc_w 383) by decide +kernel) (j := 21) (by decide +kernel) (by decide +kernel))
theorem b221_57 (d : Nat) (μ : jM) (u0 : Value) (u1 : Value) (i2 : Int32) (i3 : Int32) (r4 : Value) (s0 : Nat) (s1 : Value) (h4 : jisref r4 = true) (hs1 : jisref s1 = true) : jR (d + 1) 221 57 [u0, u1, .int i2, .int i3, r4] [s1, (.ref s0)] μ = (if jrecv μ 1 ((.ref s0)) = true then (jC d 294 [(.ref s0), s1] μ).bind fun p1 => jR (d + 1) 221 60 [u0, u1, .int i2, .int i3, r4] (p1.1.toList ++ []) p1.2 else none) :=
  l_callV (u := 1) (v := (.ref s0)) (as := [s1]) (show gPG 221 57 = some (jinvI 1 385) by decide +kernel) (by decide) (cc := 294) (na := 2) (kd := 1) (q4 := 0) (z := 10) (rest := []) (by decide +kernel) (by decide +kernel)  rfl (show (2 : Nat) ≤ 2 by decide) rfl cs0 (by decide +kernel) (cav hs1 (cav jr_ref ca0))
theorem b221_60 (d : Nat) (μ : jM) (u0 : Value) (u1 : Value) (i2 : Int32) (i3 : Int32) (r4 : Value) (s0 : Value) (h4 : jisref r4 = true) (hs0 : jisref s0 = true) : jR (d + 1) 221 60 [u0, u1, .int i2, .int i3, r4] [s0] μ = (if jrecv μ 0 r4 = true then (jC d 283 [r4, .int ((i2 - i2 / 8 * 8) / 2)] μ).bind fun p1 => jR (d + 1) 221 71 [u0, u1, .int i2, .int i3, r4] (p1.1.toList ++ [s0]) p1.2 else none) :=
  (l_aload (show gPG 221 60 = some (.aload 4) by decide +kernel) rfl h4).trans <|
  (l_iload_n (show gPG 221 62 = some (.iload_n 2) by decide +kernel) rfl).trans <|
  (l_bipush (show gPG 221 63 = some (.bipush 8) by decide +kernel) (c := 8) (by decide +kernel)).trans <|
  (l_iremK (show gPG 221 65 = some (.irem) by decide +kernel) (by decide +kernel)).trans <|
  (l_iconst (show gPG 221 66 = some (.iconst 2) by decide +kernel) (c := 2) (by decide +kernel)).trans <|
  (l_idivK (show gPG 221 67 = some (.idiv) by decide +kernel) (by decide +kernel)).trans <|
  l_callV (u := 1) (v := r4) (as := [.int ((i2 - i2 / 8 * 8) / 2)]) (show gPG 221 68 = some (jinvI 1 191) by decide +kernel) (by decide) (cc := 283) (na := 2) (kd := 0) (q4 := 0) (z := 10) (rest := [s0]) (by decide +kernel) (by decide +kernel)  rfl (show (2 : Nat) ≤ 3 by decide) rfl (csv hs0 cs0) (by decide +kernel) (cai (cav h4 ca0))
theorem b221_71 (d : Nat) (μ : jM) (u0 : Value) (u1 : Value) (u2 : Value) (i3 : Int32) (u4 : Value) (s0 : Value) (s1 : Int32) (hs0 : jisref s0 = true) : jR (d + 1) 221 71 [u0, u1, u2, .int i3, u4] [.int s1, s0] μ = (if jrecv μ 1 s0 = true then (jC d 292 [s0, .int s1] μ).bind fun p1 => jR (d + 1) 221 74 [u0, u1, u2, .int i3, u4] (p1.1.toList ++ []) p1.2 else none) :=
  l_callV (u := 1) (v := s0) (as := [.int s1]) (show gPG 221 71 = some (jinvI 1 389) by decide +kernel) (by decide) (cc := 292) (na := 2) (kd := 1) (q4 := 0) (z := 10) (rest := []) (by decide +kernel) (by decide +kernel)  rfl (show (2 : Nat) ≤ 2 by decide) rfl cs0 (by decide +kernel) (cai (cav hs0 ca0))
theorem b221_74 (d : Nat) (μ : jM) (u0 : Value) (u1 : Value) (u2 : Value) (i3 : Int32) (u4 : Value) (s0 : Value) (hs0 : jisref s0 = true) : jR (d + 1) 221 74 [u0, u1, u2, .int i3, u4] [s0] μ = (if jrecv μ 1 s0 = true then (jC d 293 [s0, .int (i3 + 1)] μ).bind fun p1 => jR (d + 1) 221 80 [u0, u1, u2, .int i3, u4] (p1.1.toList ++ []) p1.2 else none) :=
  (l_iload_n (show gPG 221 74 = some (.iload_n 3) by decide +kernel) rfl).trans <|
  (l_iconst (show gPG 221 75 = some (.iconst 1) by decide +kernel) (c := 1) (by decide +kernel)).trans <|
  (l_iadd (show gPG 221 76 = some (.iadd) by decide +kernel) ).trans <|
  l_callV (u := 1) (v := s0) (as := [.int (i3 + 1)]) (show gPG 221 77 = some (jinvI 1 392) by decide +kernel) (by decide) (cc := 293) (na := 2) (kd := 1) (q4 := 0) (z := 10) (rest := []) (by decide +kernel) (by decide +kernel)  rfl (show (2 : Nat) ≤ 2 by decide) rfl cs0 (by decide +kernel) (cai (cav hs0 ca0))
theorem b221_80 (d : Nat) (μ : jM) (u0 : Value) (u1 : Value) (u2 : Value) (u3 : Value) (u4 : Value) (s0 : Value) (hs0 : jisref s0 = true) : jR (d + 1) 221 80 [u0, u1, u2, u3, u4] [s0] μ = (if jrecv μ 1 s0 = true then (jC d 297 [s0] μ).bind fun p1 => jR (d + 1) 221 83 [u0, u1, u2, u3, u4] (p1.1.toList ++ []) p1.2 else none) :=
  l_callV (u := 1) (v := s0) (as := []) (show gPG 221 80 = some (jinvI 1 395) by decide +kernel) (by decide) (cc := 297) (na := 1) (kd := 1) (q4 := 0) (z := 10) (rest := []) (by decide +kernel) (by decide +kernel)  rfl (show (1 : Nat) ≤ 1 by decide) rfl cs0 (by decide +kernel) (cav hs0 ca0)
theorem b221_83 (d : Nat) (μ : jM) (u0 : Value) (u1 : Value) (u2 : Value) (u3 : Value) (u4 : Value) (s0 : Value) (hs0 : jisref s0 = true) : jR d 221 83 [u0, u1, u2, u3, u4] [s0] μ = some (some s0, μ) :=
  l_aret (show gPG 221 83 = some (.areturn) by decide +kernel) (by decide +kernel) hs0
-- Ref.rule
theorem b222_0 (d : Nat) (μ : jM) (a : Nat) (i1 : Int32) (i2 : Int32) (i3 : Int32) : jR (d + 1) 222 0 [.ref a, .int i1, .int i2, .int i3, .retAddr 0] [] μ = (jC d 171 [.int i1] μ).bind fun p1 => jR (d + 1) 222 4 [.ref a, .int i1, .int i2, .int i3, .retAddr 0] (p1.1.toList ++ []) p1.2 :=
  (l_iload_n (show gPG 222 0 = some (.iload_n 1) by decide +kernel) rfl).trans <|
  l_callS (u := 2) (as := [.int i1]) (show gPG 222 1 = some (jinvI 2 133) by decide +kernel) (by decide) (cc := 171) (na := 1) (q4 := 0) (z := 12) (rest := []) (by decide +kernel) (by decide +kernel)  rfl (show (1 : Nat) ≤ 1 by decide) rfl cs0 (by decide +kernel) (cai ca0) (fun e => absurd e (by decide))
theorem b222_4 (d : Nat) (μ : jM) (a : Nat) (i1 : Int32) (i2 : Int32) (i3 : Int32) (u4 : Value) (s0 : Int32) : jR (d + 1) 222 4 [.ref a, .int i1, .int i2, .int i3, u4] [.int s0] μ = (if s0 = 0 then jR (d + 1) 222 26 [.ref a, .int i1, .int i2, .int i3, u4] [] μ else (jC d 165 [.int i2, .int 0, .int 5] μ).bind fun p1 => jR (d + 1) 222 13 [.ref a, .int i1, .int i2, .int i3, u4] (p1.1.toList ++ []) p1.2) :=
  (l_cmp0 (show gPG 222 4 = some (.ifCond .eq 22) by decide +kernel) (t := 26) (by decide +kernel)).trans <| jm_eq.trans <| ite_cg (
  rfl) (
  (l_iload_n (show gPG 222 7 = some (.iload_n 2) by decide +kernel) rfl).trans <|
  (l_iconst (show gPG 222 8 = some (.iconst 0) by decide +kernel) (c := 0) (by decide +kernel)).trans <|
  (l_iconst (show gPG 222 9 = some (.iconst 5) by decide +kernel) (c := 5) (by decide +kernel)).trans <|
  l_callS (u := 2) (as := [.int i2, .int 0, .int 5]) (show gPG 222 10 = some (jinvI 2 125) by decide +kernel) (by decide) (cc := 165) (na := 3) (q4 := 0) (z := 12) (rest := []) (by decide +kernel) (by decide +kernel)  rfl (show (3 : Nat) ≤ 3 by decide) rfl cs0 (by decide +kernel) (cai (cai (cai ca0))) (fun e => absurd e (by decide)))
theorem b222_13 (d : Nat) (μ : jM) (a : Nat) (i1 : Int32) (i2 : Int32) (i3 : Int32) (u4 : Value) (s0 : Int32) : jR (d + 1) 222 13 [.ref a, .int i1, .int i2, .int i3, u4] [.int s0] μ = (if s0 = 0 then jR (d + 1) 222 26 [.ref a, .int i1, .int i2, .int i3, u4] [] μ else (jC d 165 [.int i3, .int 0, .int 99] μ).bind fun p1 => jR (d + 1) 222 23 [.ref a, .int i1, .int i2, .int i3, u4] (p1.1.toList ++ []) p1.2) :=
  (l_cmp0 (show gPG 222 13 = some (.ifCond .eq 13) by decide +kernel) (t := 26) (by decide +kernel)).trans <| jm_eq.trans <| ite_cg (
  rfl) (
  (l_iload_n (show gPG 222 16 = some (.iload_n 3) by decide +kernel) rfl).trans <|
  (l_iconst (show gPG 222 17 = some (.iconst 0) by decide +kernel) (c := 0) (by decide +kernel)).trans <|
  (l_bipush (show gPG 222 18 = some (.bipush 99) by decide +kernel) (c := 99) (by decide +kernel)).trans <|
  l_callS (u := 2) (as := [.int i3, .int 0, .int 99]) (show gPG 222 20 = some (jinvI 2 125) by decide +kernel) (by decide) (cc := 165) (na := 3) (q4 := 0) (z := 12) (rest := []) (by decide +kernel) (by decide +kernel)  rfl (show (3 : Nat) ≤ 3 by decide) rfl cs0 (by decide +kernel) (cai (cai (cai ca0))) (fun e => absurd e (by decide)))
theorem b222_23 (d : Nat) (μ : jM) (a : Nat) (i1 : Int32) (i2 : Int32) (i3 : Int32) (u4 : Value) (s0 : Int32) : jR d 222 23 [.ref a, .int i1, .int i2, .int i3, u4] [.int s0] μ = (if s0 = 0 then jR d 222 26 [.ref a, .int i1, .int i2, .int i3, u4] [] μ else (jgR μ 13 6 (.ref a)).bind fun w1 => (jaI μ w1 i1).bind fun x2 => (jgR μ 13 7 (.ref a)).bind fun w3 => (jaI μ w3 i1).bind fun x4 => (jgR μ 13 6 (.ref a)).bind fun w5 => (jsI μ w5 i1 i2).bind fun m6 => (jgR m6 13 7 (.ref a)).bind fun w7 => (jsI m6 w7 i1 i3).bind fun m8 => some (some (.int ((10 * x2) + x4)), m8)) :=
  (l_cmp0 (show gPG 222 23 = some (.ifCond .ne 6) by decide +kernel) (t := 29) (by decide +kernel)).trans <| jm_ne.trans <| ite_cg (
  rfl) (
  (l_bipush (show gPG 222 29 = some (.bipush 10) by decide +kernel) (c := 10) (by decide +kernel)).trans <|
  (l_aload_n (show gPG 222 31 = some (.aload_n 0) by decide +kernel) rfl jr_ref).trans <|
  (l_gR (show gPG 222 32 = some (.getfield 34) by decide +kernel) (kd := 13) (sl := 6) (tc := 1) (fin := 1) (z := 0) (by decide +kernel) (by decide +kernel) (by decide +kernel)).trans <| bd_cg fun w1 hw1 =>
  (l_iload_n (show gPG 222 35 = some (.iload_n 1) by decide +kernel) rfl).trans <|
  (l_iald (show gPG 222 36 = some (.iaload) by decide +kernel) ).trans <| bd_cg fun x2 hx2 =>
  (l_imul (show gPG 222 37 = some (.imul) by decide +kernel) ).trans <|
  (l_aload_n (show gPG 222 38 = some (.aload_n 0) by decide +kernel) rfl jr_ref).trans <|
  (l_gR (show gPG 222 39 = some (.getfield 37) by decide +kernel) (kd := 13) (sl := 7) (tc := 1) (fin := 1) (z := 0) (by decide +kernel) (by decide +kernel) (by decide +kernel)).trans <| bd_cg fun w3 hw3 =>
  (l_iload_n (show gPG 222 42 = some (.iload_n 1) by decide +kernel) rfl).trans <|
  (l_iald (show gPG 222 43 = some (.iaload) by decide +kernel) ).trans <| bd_cg fun x4 hx4 =>
  (l_iadd (show gPG 222 44 = some (.iadd) by decide +kernel) ).trans <|
  (l_istore (show gPG 222 45 = some (.istore 4) by decide +kernel) (ls := [.ref a, .int i1, .int i2, .int i3, u4]) (show (4 : Nat) < 5 by decide) (show _ = ([.ref a, .int i1, .int i2, .int i3, .int ((10 * x2) + x4)] : List Value) from rfl)).trans <|
  (l_aload_n (show gPG 222 47 = some (.aload_n 0) by decide +kernel) rfl jr_ref).trans <|
  (l_gR (show gPG 222 48 = some (.getfield 34) by decide +kernel) (kd := 13) (sl := 6) (tc := 1) (fin := 1) (z := 0) (by decide +kernel) (by decide +kernel) (by decide +kernel)).trans <| bd_cg fun w5 hw5 =>
  (l_iload_n (show gPG 222 51 = some (.iload_n 1) by decide +kernel) rfl).trans <|
  (l_iload_n (show gPG 222 52 = some (.iload_n 2) by decide +kernel) rfl).trans <|
  (l_iast (show gPG 222 53 = some (.iastore) by decide +kernel) ).trans <| bd_cg fun m6 hm6 =>
  (l_aload_n (show gPG 222 54 = some (.aload_n 0) by decide +kernel) rfl jr_ref).trans <|
  (l_gR (show gPG 222 55 = some (.getfield 37) by decide +kernel) (kd := 13) (sl := 7) (tc := 1) (fin := 1) (z := 0) (by decide +kernel) (by decide +kernel) (by decide +kernel)).trans <| bd_cg fun w7 hw7 =>
  (l_iload_n (show gPG 222 58 = some (.iload_n 1) by decide +kernel) rfl).trans <|
  (l_iload_n (show gPG 222 59 = some (.iload_n 3) by decide +kernel) rfl).trans <|
  (l_iast (show gPG 222 60 = some (.iastore) by decide +kernel) ).trans <| bd_cg fun m8 hm8 =>
  (l_iload (show gPG 222 61 = some (.iload 4) by decide +kernel) rfl).trans <|
  l_iret1 (show gPG 222 63 = some (.ireturn) by decide +kernel) (by decide +kernel))
theorem b222_26 (d : Nat) (μ : jM) (u0 : Value) (u1 : Value) (u2 : Value) (u3 : Value) (u4 : Value) : jR d 222 26 [u0, u1, u2, u3, u4] [] μ = some (some (.int (-2)), μ) :=
  (l_bipush (show gPG 222 26 = some (.bipush (-2)) by decide +kernel) (c := (-2)) (by decide +kernel)).trans <|
  l_iret1 (show gPG 222 28 = some (.ireturn) by decide +kernel) (by decide +kernel)
-- Ref.taken
theorem b223_0 (d : Nat) (μ : jM) (a : Nat) (i1 : Int32) (i2 : Int32) : jR (d + 1) 223 0 [.ref a, .int i1, .int i2, .retAddr 0, .retAddr 0] [] μ = (jC d 171 [.int i1] μ).bind fun p1 => jR (d + 1) 223 4 [.ref a, .int i1, .int i2, .retAddr 0, .retAddr 0] (p1.1.toList ++ []) p1.2 :=
  (l_iload_n (show gPG 223 0 = some (.iload_n 1) by decide +kernel) rfl).trans <|
  l_callS (u := 2) (as := [.int i1]) (show gPG 223 1 = some (jinvI 2 133) by decide +kernel) (by decide) (cc := 171) (na := 1) (q4 := 0) (z := 12) (rest := []) (by decide +kernel) (by decide +kernel)  rfl (show (1 : Nat) ≤ 1 by decide) rfl cs0 (by decide +kernel) (cai ca0) (fun e => absurd e (by decide))
theorem b223_4 (d : Nat) (μ : jM) (a : Nat) (i1 : Int32) (i2 : Int32) (u3 : Value) (u4 : Value) (s0 : Int32) : jR (d + 1) 223 4 [.ref a, .int i1, .int i2, u3, u4] [.int s0] μ = (if s0 = 0 then jR (d + 1) 223 16 [.ref a, .int i1, .int i2, u3, u4] [] μ else (jC d 165 [.int i2, .int 0, .int 5] μ).bind fun p1 => jR (d + 1) 223 13 [.ref a, .int i1, .int i2, u3, u4] (p1.1.toList ++ []) p1.2) :=
  (l_cmp0 (show gPG 223 4 = some (.ifCond .eq 12) by decide +kernel) (t := 16) (by decide +kernel)).trans <| jm_eq.trans <| ite_cg (
  rfl) (
  (l_iload_n (show gPG 223 7 = some (.iload_n 2) by decide +kernel) rfl).trans <|
  (l_iconst (show gPG 223 8 = some (.iconst 0) by decide +kernel) (c := 0) (by decide +kernel)).trans <|
  (l_iconst (show gPG 223 9 = some (.iconst 5) by decide +kernel) (c := 5) (by decide +kernel)).trans <|
  l_callS (u := 2) (as := [.int i2, .int 0, .int 5]) (show gPG 223 10 = some (jinvI 2 125) by decide +kernel) (by decide) (cc := 165) (na := 3) (q4 := 0) (z := 12) (rest := []) (by decide +kernel) (by decide +kernel)  rfl (show (3 : Nat) ≤ 3 by decide) rfl cs0 (by decide +kernel) (cai (cai (cai ca0))) (fun e => absurd e (by decide)))
theorem b223_13 (d : Nat) (μ : jM) (a : Nat) (i1 : Int32) (i2 : Int32) (u3 : Value) (u4 : Value) (s0 : Int32) : jR d 223 13 [.ref a, .int i1, .int i2, u3, u4] [.int s0] μ = (if s0 = 0 then jR d 223 16 [.ref a, .int i1, .int i2, u3, u4] [] μ else (jgR μ 13 6 (.ref a)).bind fun w1 => (jaI μ w1 i1).bind fun x2 => (if i2 = 0 then jR d 223 70 [.ref a, .int i1, .int i2, .int x2, u4] [] μ else (if i2 = x2 then jR d 223 70 [.ref a, .int i1, .int i2, .int x2, u4] [] μ else (if i2 = 1 then (if x2 = 5 then jR d 223 70 [.ref a, .int i1, .int i2, .int x2, u4] [] μ else jR d 223 45 [.ref a, .int i1, .int i2, .int x2, u4] [] μ) else jR d 223 45 [.ref a, .int i1, .int i2, .int x2, u4] [] μ)))) :=
  (l_cmp0 (show gPG 223 13 = some (.ifCond .ne 6) by decide +kernel) (t := 19) (by decide +kernel)).trans <| jm_ne.trans <| ite_cg (
  rfl) (
  (l_aload_n (show gPG 223 19 = some (.aload_n 0) by decide +kernel) rfl jr_ref).trans <|
  (l_gR (show gPG 223 20 = some (.getfield 34) by decide +kernel) (kd := 13) (sl := 6) (tc := 1) (fin := 1) (z := 0) (by decide +kernel) (by decide +kernel) (by decide +kernel)).trans <| bd_cg fun w1 hw1 =>
  (l_iload_n (show gPG 223 23 = some (.iload_n 1) by decide +kernel) rfl).trans <|
  (l_iald (show gPG 223 24 = some (.iaload) by decide +kernel) ).trans <| bd_cg fun x2 hx2 =>
  (l_istore_n (show gPG 223 25 = some (.istore_n 3) by decide +kernel) (ls := [.ref a, .int i1, .int i2, u3, u4]) (show (3 : Nat) < 5 by decide) (show _ = ([.ref a, .int i1, .int i2, .int x2, u4] : List Value) from rfl)).trans <|
  (l_iload_n (show gPG 223 26 = some (.iload_n 2) by decide +kernel) rfl).trans <|
  (l_cmp0 (show gPG 223 27 = some (.ifCond .eq 43) by decide +kernel) (t := 70) (by decide +kernel)).trans <| jm_eq.trans <| ite_cg (
  rfl) (
  (l_iload_n (show gPG 223 30 = some (.iload_n 2) by decide +kernel) rfl).trans <|
  (l_iload_n (show gPG 223 31 = some (.iload_n 3) by decide +kernel) rfl).trans <|
  (l_cmp (show gPG 223 32 = some (.if_icmp .eq 38) by decide +kernel) (t := 70) (by decide +kernel)).trans <| jm_eq.trans <| ite_cg (
  rfl) (
  (l_iload_n (show gPG 223 35 = some (.iload_n 2) by decide +kernel) rfl).trans <|
  (l_iconst (show gPG 223 36 = some (.iconst 1) by decide +kernel) (c := 1) (by decide +kernel)).trans <|
  (l_cmp (show gPG 223 37 = some (.if_icmp .ne 8) by decide +kernel) (t := 45) (by decide +kernel)).trans <| jm_ne.trans <| ite_cg (
  (l_iload_n (show gPG 223 40 = some (.iload_n 3) by decide +kernel) rfl).trans <|
  (l_iconst (show gPG 223 41 = some (.iconst 5) by decide +kernel) (c := 5) (by decide +kernel)).trans <|
  (l_cmp (show gPG 223 42 = some (.if_icmp .eq 28) by decide +kernel) (t := 70) (by decide +kernel)).trans <| jm_eq.trans <| ite_cg (
  rfl) (
  rfl)) (
  rfl))))
theorem b223_16 (d : Nat) (μ : jM) (u0 : Value) (u1 : Value) (u2 : Value) (u3 : Value) (u4 : Value) : jR d 223 16 [u0, u1, u2, u3, u4] [] μ = some (some (.int (-2)), μ) :=
  (l_bipush (show gPG 223 16 = some (.bipush (-2)) by decide +kernel) (c := (-2)) (by decide +kernel)).trans <|
  l_iret1 (show gPG 223 18 = some (.ireturn) by decide +kernel) (by decide +kernel)
theorem b223_45 (d : Nat) (μ : jM) (a : Nat) (i1 : Int32) (i2 : Int32) (i3 : Int32) (u4 : Value) : jR d 223 45 [.ref a, .int i1, .int i2, .int i3, u4] [] μ = (if i2 = 2 then (if i3 = 3 then jR d 223 70 [.ref a, .int i1, .int i2, .int i3, u4] [] μ else (if i3 = 4 then jR d 223 70 [.ref a, .int i1, .int i2, .int i3, u4] [] μ else jR d 223 60 [.ref a, .int i1, .int i2, .int i3, u4] [] μ)) else jR d 223 60 [.ref a, .int i1, .int i2, .int i3, u4] [] μ) :=
  (l_iload_n (show gPG 223 45 = some (.iload_n 2) by decide +kernel) rfl).trans <|
  (l_iconst (show gPG 223 46 = some (.iconst 2) by decide +kernel) (c := 2) (by decide +kernel)).trans <|
  (l_cmp (show gPG 223 47 = some (.if_icmp .ne 13) by decide +kernel) (t := 60) (by decide +kernel)).trans <| jm_ne.trans <| ite_cg (
  (l_iload_n (show gPG 223 50 = some (.iload_n 3) by decide +kernel) rfl).trans <|
  (l_iconst (show gPG 223 51 = some (.iconst 3) by decide +kernel) (c := 3) (by decide +kernel)).trans <|
  (l_cmp (show gPG 223 52 = some (.if_icmp .eq 18) by decide +kernel) (t := 70) (by decide +kernel)).trans <| jm_eq.trans <| ite_cg (
  rfl) (
  (l_iload_n (show gPG 223 55 = some (.iload_n 3) by decide +kernel) rfl).trans <|
  (l_iconst (show gPG 223 56 = some (.iconst 4) by decide +kernel) (c := 4) (by decide +kernel)).trans <|
  (l_cmp (show gPG 223 57 = some (.if_icmp .eq 13) by decide +kernel) (t := 70) (by decide +kernel)).trans <| jm_eq.trans <| ite_cg (
  rfl) (
  rfl))) (
  rfl)
theorem b223_60 (d : Nat) (μ : jM) (a : Nat) (i1 : Int32) (i2 : Int32) (i3 : Int32) (u4 : Value) : jR d 223 60 [.ref a, .int i1, .int i2, .int i3, u4] [] μ = (if i2 = 3 then (if i3 = 4 then jR d 223 70 [.ref a, .int i1, .int i2, .int i3, u4] [] μ else jR d 223 74 [.ref a, .int i1, .int i2, .int i3, u4] [] μ) else jR d 223 74 [.ref a, .int i1, .int i2, .int i3, u4] [] μ) :=
  (l_iload_n (show gPG 223 60 = some (.iload_n 2) by decide +kernel) rfl).trans <|
  (l_iconst (show gPG 223 61 = some (.iconst 3) by decide +kernel) (c := 3) (by decide +kernel)).trans <|
  (l_cmp (show gPG 223 62 = some (.if_icmp .ne 12) by decide +kernel) (t := 74) (by decide +kernel)).trans <| jm_ne.trans <| ite_cg (
  (l_iload_n (show gPG 223 65 = some (.iload_n 3) by decide +kernel) rfl).trans <|
  (l_iconst (show gPG 223 66 = some (.iconst 4) by decide +kernel) (c := 4) (by decide +kernel)).trans <|
  (l_cmp (show gPG 223 67 = some (.if_icmp .ne 7) by decide +kernel) (t := 74) (by decide +kernel)).trans <| jm_ne.trans <| ite_cg (
  rfl) (
  rfl)) (
  rfl)
theorem b223_70 (d : Nat) (μ : jM) (a : Nat) (i1 : Int32) (u2 : Value) (u3 : Value) (u4 : Value) : jR d 223 70 [.ref a, .int i1, u2, u3, u4] [] μ = jR d 223 75 [.ref a, .int i1, u2, u3, u4] [.int 1] μ :=
  (l_iconst (show gPG 223 70 = some (.iconst 1) by decide +kernel) (c := 1) (by decide +kernel)).trans <|
  l_goto (show gPG 223 71 = some (.goto 4) by decide +kernel) (t := 75) (by decide +kernel)
theorem b223_74 (d : Nat) (μ : jM) (a : Nat) (i1 : Int32) (u2 : Value) (u3 : Value) (u4 : Value) : jR d 223 74 [.ref a, .int i1, u2, u3, u4] [] μ = jR d 223 75 [.ref a, .int i1, u2, u3, u4] [.int 0] μ :=
  l_iconst (show gPG 223 74 = some (.iconst 0) by decide +kernel) (c := 0) (by decide +kernel)
theorem b223_75 (d : Nat) (μ : jM) (a : Nat) (i1 : Int32) (u2 : Value) (u3 : Value) (u4 : Value) (s0 : Int32) : jR d 223 75 [.ref a, .int i1, u2, u3, u4] [.int s0] μ = (if s0 = 0 then jR d 223 93 [.ref a, .int i1, u2, u3, .int s0] [.int (-13)] μ else (jgR μ 13 7 (.ref a)).bind fun w1 => (jaI μ w1 i1).bind fun x2 => jR d 223 93 [.ref a, .int i1, u2, u3, .int s0] [.int x2] μ) :=
  (l_istore (show gPG 223 75 = some (.istore 4) by decide +kernel) (ls := [.ref a, .int i1, u2, u3, u4]) (show (4 : Nat) < 5 by decide) (show _ = ([.ref a, .int i1, u2, u3, .int s0] : List Value) from rfl)).trans <|
  (l_iload (show gPG 223 77 = some (.iload 4) by decide +kernel) rfl).trans <|
  (l_cmp0 (show gPG 223 79 = some (.ifCond .eq 12) by decide +kernel) (t := 91) (by decide +kernel)).trans <| jm_eq.trans <| ite_cg (
  l_bipush (show gPG 223 91 = some (.bipush (-13)) by decide +kernel) (c := (-13)) (by decide +kernel)) (
  (l_aload_n (show gPG 223 82 = some (.aload_n 0) by decide +kernel) rfl jr_ref).trans <|
  (l_gR (show gPG 223 83 = some (.getfield 37) by decide +kernel) (kd := 13) (sl := 7) (tc := 1) (fin := 1) (z := 0) (by decide +kernel) (by decide +kernel) (by decide +kernel)).trans <| bd_cg fun w1 hw1 =>
  (l_iload_n (show gPG 223 86 = some (.iload_n 1) by decide +kernel) rfl).trans <|
  (l_iald (show gPG 223 87 = some (.iaload) by decide +kernel) ).trans <| bd_cg fun x2 hx2 =>
  l_goto (show gPG 223 88 = some (.goto 5) by decide +kernel) (t := 93) (by decide +kernel))
theorem b223_93 (d : Nat) (μ : jM) (u0 : Value) (u1 : Value) (u2 : Value) (u3 : Value) (u4 : Value) (s0 : Int32) : jR d 223 93 [u0, u1, u2, u3, u4] [.int s0] μ = some (some (.int s0), μ) :=
  l_iret1 (show gPG 223 93 = some (.ireturn) by decide +kernel) (by decide +kernel)
-- Ref.merge
theorem b224_0 (d : Nat) (μ : jM) (a : Nat) : jR (d + 1) 224 0 [.ref a] [] μ = (if jrecv μ 13 (.ref a) = true then (jC d 225 [.ref a] μ).bind fun p1 => jR (d + 1) 224 4 [.ref a] (p1.1.toList ++ []) p1.2 else none) :=
  (l_aload_n (show gPG 224 0 = some (.aload_n 0) by decide +kernel) rfl jr_ref).trans <|
  l_callV (u := 1) (v := .ref a) (as := []) (show gPG 224 1 = some (jinvI 1 459) by decide +kernel) (by decide) (cc := 225) (na := 1) (kd := 13) (q4 := 0) (z := 10) (rest := []) (by decide +kernel) (by decide +kernel)  rfl (show (1 : Nat) ≤ 1 by decide) rfl cs0 (by decide +kernel) (cav jr_ref ca0)
theorem b224_4 (d : Nat) (μ : jM) (a : Nat) (s0 : Int32) : jR d 224 4 [.ref a] [.int s0] μ = (if s0 = 0 then some (some (.int (-4)), μ) else (jpI μ 13 36 2 (.ref a) 1).bind fun m1 => (jgI m1 13 35 (.ref a)).bind fun x2 => some (some (.int x2), m1)) :=
  (l_cmp0 (show gPG 224 4 = some (.ifCond .ne 6) by decide +kernel) (t := 10) (by decide +kernel)).trans <| jm_ne.trans <| ite_cg (
  (l_bipush (show gPG 224 7 = some (.bipush (-4)) by decide +kernel) (c := (-4)) (by decide +kernel)).trans <|
  l_iret1 (show gPG 224 9 = some (.ireturn) by decide +kernel) (by decide +kernel)) (
  (l_aload_n (show gPG 224 10 = some (.aload_n 0) by decide +kernel) rfl jr_ref).trans <|
  (l_iconst (show gPG 224 11 = some (.iconst 1) by decide +kernel) (c := 1) (by decide +kernel)).trans <|
  (l_pI (show gPG 224 12 = some (.putfield 166) by decide +kernel) (kd := 13) (sl := 36) (tc := 2) (fin := 0) (z := 0) (by decide +kernel) (by decide +kernel) (by decide +kernel)).trans <| bd_cg fun m1 hm1 =>
  (l_aload_n (show gPG 224 15 = some (.aload_n 0) by decide +kernel) rfl jr_ref).trans <|
  (l_gI (show gPG 224 16 = some (.getfield 163) by decide +kernel) (kd := 13) (sl := 35) (tc := 0) (fin := 0) (z := 0) (by decide +kernel) (by decide +kernel) (by decide +kernel)).trans <| bd_cg fun x2 hx2 =>
  l_iret1 (show gPG 224 19 = some (.ireturn) by decide +kernel) (by decide +kernel))
-- Ref.merges
theorem b225_0 (d : Nat) (μ : jM) (a : Nat) : jR (d + 1) 225 0 [.ref a, .retAddr 0] [] μ = (if jrecv μ 13 (.ref a) = true then (jC d 226 [.ref a] μ).bind fun p1 => jR (d + 1) 225 4 [.ref a, .retAddr 0] (p1.1.toList ++ []) p1.2 else none) :=
  (l_aload_n (show gPG 225 0 = some (.aload_n 0) by decide +kernel) rfl jr_ref).trans <|
  l_callV (u := 1) (v := .ref a) (as := []) (show gPG 225 1 = some (jinvI 1 452) by decide +kernel) (by decide) (cc := 226) (na := 1) (kd := 13) (q4 := 0) (z := 10) (rest := []) (by decide +kernel) (by decide +kernel)  rfl (show (1 : Nat) ≤ 1 by decide) rfl cs0 (by decide +kernel) (cav jr_ref ca0)
theorem b225_4 (d : Nat) (μ : jM) (a : Nat) (u1 : Value) (s0 : Int32) : jR d 225 4 [.ref a, u1] [.int s0] μ = (if s0 = 0 then some (some (.int 0), μ) else (jpI μ 13 35 0 (.ref a) 0).bind fun m1 => jR d 225 16 [.ref a, .int 1] [] m1) :=
  (l_cmp0 (show gPG 225 4 = some (.ifCond .ne 5) by decide +kernel) (t := 9) (by decide +kernel)).trans <| jm_ne.trans <| ite_cg (
  (l_iconst (show gPG 225 7 = some (.iconst 0) by decide +kernel) (c := 0) (by decide +kernel)).trans <|
  l_iretK (show gPG 225 8 = some (.ireturn) by decide +kernel) (by decide +kernel)) (
  (l_aload_n (show gPG 225 9 = some (.aload_n 0) by decide +kernel) rfl jr_ref).trans <|
  (l_iconst (show gPG 225 10 = some (.iconst 0) by decide +kernel) (c := 0) (by decide +kernel)).trans <|
  (l_pI (show gPG 225 11 = some (.putfield 163) by decide +kernel) (kd := 13) (sl := 35) (tc := 0) (fin := 0) (z := 0) (by decide +kernel) (by decide +kernel) (by decide +kernel)).trans <| bd_cg fun m1 hm1 =>
  (l_iconst (show gPG 225 14 = some (.iconst 1) by decide +kernel) (c := 1) (by decide +kernel)).trans <|
  l_istore_n (show gPG 225 15 = some (.istore_n 1) by decide +kernel) (ls := [.ref a, u1]) (show (1 : Nat) < 2 by decide) (show _ = ([.ref a, .int 1] : List Value) from rfl))
theorem b225_16 (d : Nat) (μ : jM) (a : Nat) (i1 : Int32) : jR (d + 1) 225 16 [.ref a, .int i1] [] μ = (if i1 < 100 then (if jrecv μ 13 (.ref a) = true then (jC d 194 [.ref a, .int 3, .int i1] μ).bind fun p1 => jR (d + 1) 225 28 [.ref a, .int i1] (p1.1.toList ++ []) p1.2 else none) else some (some (.int 1), μ)) :=
  (l_iload_n (show gPG 225 16 = some (.iload_n 1) by decide +kernel) rfl).trans <|
  (l_bipush (show gPG 225 17 = some (.bipush 100) by decide +kernel) (c := 100) (by decide +kernel)).trans <|
  (l_cmp (show gPG 225 19 = some (.if_icmp .ge 24) by decide +kernel) (t := 43) (by decide +kernel)).trans <| jm_ge.trans <| ite_cg (
  (l_aload_n (show gPG 225 22 = some (.aload_n 0) by decide +kernel) rfl jr_ref).trans <|
  (l_iconst (show gPG 225 23 = some (.iconst 3) by decide +kernel) (c := 3) (by decide +kernel)).trans <|
  (l_iload_n (show gPG 225 24 = some (.iload_n 1) by decide +kernel) rfl).trans <|
  l_callV (u := 1) (v := .ref a) (as := [.int 3, .int i1]) (show gPG 225 25 = some (jinvI 1 301) by decide +kernel) (by decide) (cc := 194) (na := 3) (kd := 13) (q4 := 0) (z := 10) (rest := []) (by decide +kernel) (by decide +kernel)  rfl (show (3 : Nat) ≤ 3 by decide) rfl cs0 (by decide +kernel) (cai (cai (cav jr_ref ca0)))) (
  (l_iconst (show gPG 225 43 = some (.iconst 1) by decide +kernel) (c := 1) (by decide +kernel)).trans <|
  l_iretK (show gPG 225 44 = some (.ireturn) by decide +kernel) (by decide +kernel))
theorem b225_28 (d : Nat) (μ : jM) (a : Nat) (i1 : Int32) (s0 : Int32) : jR (d + 1) 225 28 [.ref a, .int i1] [.int s0] μ = (if s0 = (-1) then jR (d + 1) 225 37 [.ref a, .int i1] [] μ else (if jrecv μ 13 (.ref a) = true then (jC d 234 [.ref a, .int i1] μ).bind fun p1 => jR (d + 1) 225 37 [.ref a, .int i1] (p1.1.toList ++ []) p1.2 else none)) :=
  (l_iconst (show gPG 225 28 = some (.iconst (-1)) by decide +kernel) (c := (-1)) (by decide +kernel)).trans <|
  (l_cmp (show gPG 225 29 = some (.if_icmp .eq 8) by decide +kernel) (t := 37) (by decide +kernel)).trans <| jm_eq.trans <| ite_cg (
  rfl) (
  (l_aload_n (show gPG 225 32 = some (.aload_n 0) by decide +kernel) rfl jr_ref).trans <|
  (l_iload_n (show gPG 225 33 = some (.iload_n 1) by decide +kernel) rfl).trans <|
  l_callV (u := 1) (v := .ref a) (as := [.int i1]) (show gPG 225 34 = some (jinvI 1 456) by decide +kernel) (by decide) (cc := 234) (na := 2) (kd := 13) (q4 := 0) (z := 10) (rest := []) (by decide +kernel) (by decide +kernel)  rfl (show (2 : Nat) ≤ 2 by decide) rfl cs0 (by decide +kernel) (cai (cav jr_ref ca0)))
theorem b225_37 (d : Nat) (μ : jM) (a : Nat) (i1 : Int32) : jR d 225 37 [.ref a, .int i1] [] μ = jR d 225 16 [.ref a, .int (i1 + 1)] [] μ :=
  (l_iinc (show gPG 225 37 = some (.iinc 1 1) by decide +kernel) (c := 1) (by decide +kernel) rfl (show _ = ([.ref a, .int (i1 + 1)] : List Value) from rfl)).trans <|
  l_goto (show gPG 225 40 = some (.goto (-24)) by decide +kernel) (t := 16) (by decide +kernel)
-- Ref.places
theorem b226_0 (d : Nat) (μ : jM) (a : Nat) : jR d 226 0 [.ref a, .retAddr 0, .retAddr 0, .retAddr 0, .retAddr 0, .retAddr 0] [] μ = jR d 226 4 [.ref a, .int 0, .int 1, .retAddr 0, .retAddr 0, .retAddr 0] [] μ :=
  (l_iconst (show gPG 226 0 = some (.iconst 0) by decide +kernel) (c := 0) (by decide +kernel)).trans <|
  (l_istore_n (show gPG 226 1 = some (.istore_n 1) by decide +kernel) (ls := [.ref a, .retAddr 0, .retAddr 0, .retAddr 0, .retAddr 0, .retAddr 0]) (show (1 : Nat) < 6 by decide) (show _ = ([.ref a, .int 0, .retAddr 0, .retAddr 0, .retAddr 0, .retAddr 0] : List Value) from rfl)).trans <|
  (l_iconst (show gPG 226 2 = some (.iconst 1) by decide +kernel) (c := 1) (by decide +kernel)).trans <|
  l_istore_n (show gPG 226 3 = some (.istore_n 2) by decide +kernel) (ls := [.ref a, .int 0, .retAddr 0, .retAddr 0, .retAddr 0, .retAddr 0]) (show (2 : Nat) < 6 by decide) (show _ = ([.ref a, .int 0, .int 1, .retAddr 0, .retAddr 0, .retAddr 0] : List Value) from rfl)
theorem b226_4 (d : Nat) (μ : jM) (a : Nat) (i1 : Int32) (i2 : Int32) (u3 : Value) (u4 : Value) (u5 : Value) : jR (d + 1) 226 4 [.ref a, .int i1, .int i2, u3, u4, u5] [] μ = (if i2 < 100 then (if jrecv μ 13 (.ref a) = true then (jC d 227 [.ref a, .int i2] μ).bind fun p3 => jR (d + 1) 226 15 [.ref a, .int i1, .int i2, u3, u4, u5] (p3.1.toList ++ []) p3.2 else none) else (if 8 < i1 then some (some (.int 0), μ) else (jgR μ 13 0 (.ref a)).bind fun w1 => (jsI μ w1 3 0).bind fun m2 => jR (d + 1) 226 44 [.ref a, .int i1, .int 0, u3, u4, u5] [] m2)) :=
  (l_iload_n (show gPG 226 4 = some (.iload_n 2) by decide +kernel) rfl).trans <|
  (l_bipush (show gPG 226 5 = some (.bipush 100) by decide +kernel) (c := 100) (by decide +kernel)).trans <|
  (l_cmp (show gPG 226 7 = some (.if_icmp .ge 20) by decide +kernel) (t := 27) (by decide +kernel)).trans <| jm_ge.trans <| ite_cg (
  (l_aload_n (show gPG 226 10 = some (.aload_n 0) by decide +kernel) rfl jr_ref).trans <|
  (l_iload_n (show gPG 226 11 = some (.iload_n 2) by decide +kernel) rfl).trans <|
  l_callV (u := 1) (v := .ref a) (as := [.int i2]) (show gPG 226 12 = some (jinvI 1 442) by decide +kernel) (by decide) (cc := 227) (na := 2) (kd := 13) (q4 := 0) (z := 10) (rest := []) (by decide +kernel) (by decide +kernel)  rfl (show (2 : Nat) ≤ 2 by decide) rfl cs0 (by decide +kernel) (cai (cav jr_ref ca0))) (
  (l_iload_n (show gPG 226 27 = some (.iload_n 1) by decide +kernel) rfl).trans <|
  (l_bipush (show gPG 226 28 = some (.bipush 8) by decide +kernel) (c := 8) (by decide +kernel)).trans <|
  (l_cmp (show gPG 226 30 = some (.if_icmp .le 5) by decide +kernel) (t := 35) (by decide +kernel)).trans <| jm_le.trans <| ite_cg (
  (l_iconst (show gPG 226 33 = some (.iconst 0) by decide +kernel) (c := 0) (by decide +kernel)).trans <|
  l_iretK (show gPG 226 34 = some (.ireturn) by decide +kernel) (by decide +kernel)) (
  (l_aload_n (show gPG 226 35 = some (.aload_n 0) by decide +kernel) rfl jr_ref).trans <|
  (l_gR (show gPG 226 36 = some (.getfield 11) by decide +kernel) (kd := 13) (sl := 0) (tc := 1) (fin := 1) (z := 0) (by decide +kernel) (by decide +kernel) (by decide +kernel)).trans <| bd_cg fun w1 hw1 =>
  (l_iconst (show gPG 226 39 = some (.iconst 3) by decide +kernel) (c := 3) (by decide +kernel)).trans <|
  (l_iconst (show gPG 226 40 = some (.iconst 0) by decide +kernel) (c := 0) (by decide +kernel)).trans <|
  (l_iast (show gPG 226 41 = some (.iastore) by decide +kernel) ).trans <| bd_cg fun m2 hm2 =>
  (l_iconst (show gPG 226 42 = some (.iconst 0) by decide +kernel) (c := 0) (by decide +kernel)).trans <|
  l_istore_n (show gPG 226 43 = some (.istore_n 2) by decide +kernel) (ls := [.ref a, .int i1, .int i2, u3, u4, u5]) (show (2 : Nat) < 6 by decide) (show _ = ([.ref a, .int i1, .int 0, u3, u4, u5] : List Value) from rfl)))
theorem b226_15 (d : Nat) (μ : jM) (a : Nat) (i1 : Int32) (i2 : Int32) (u3 : Value) (u4 : Value) (u5 : Value) (s0 : Int32) : jR d 226 15 [.ref a, .int i1, .int i2, u3, u4, u5] [.int s0] μ = (if s0 = 0 then jR d 226 21 [.ref a, .int i1, .int i2, u3, u4, u5] [] μ else jR d 226 21 [.ref a, .int (i1 + 1), .int i2, u3, u4, u5] [] μ) :=
  (l_cmp0 (show gPG 226 15 = some (.ifCond .eq 6) by decide +kernel) (t := 21) (by decide +kernel)).trans <| jm_eq.trans <| ite_cg (
  rfl) (
  l_iinc (show gPG 226 18 = some (.iinc 1 1) by decide +kernel) (c := 1) (by decide +kernel) rfl (show _ = ([.ref a, .int (i1 + 1), .int i2, u3, u4, u5] : List Value) from rfl))
theorem b226_21 (d : Nat) (μ : jM) (a : Nat) (i1 : Int32) (i2 : Int32) (u3 : Value) (u4 : Value) (u5 : Value) : jR d 226 21 [.ref a, .int i1, .int i2, u3, u4, u5] [] μ = jR d 226 4 [.ref a, .int i1, .int (i2 + 1), u3, u4, u5] [] μ :=
  (l_iinc (show gPG 226 21 = some (.iinc 2 1) by decide +kernel) (c := 1) (by decide +kernel) rfl (show _ = ([.ref a, .int i1, .int (i2 + 1), u3, u4, u5] : List Value) from rfl)).trans <|
  l_goto (show gPG 226 24 = some (.goto (-20)) by decide +kernel) (t := 4) (by decide +kernel)
theorem b226_44 (d : Nat) (μ : jM) (a : Nat) (u1 : Value) (i2 : Int32) (u3 : Value) (u4 : Value) (u5 : Value) : jR (d + 1) 226 44 [.ref a, u1, .int i2, u3, u4, u5] [] μ = (jgR μ 13 0 (.ref a)).bind fun w1 => (jaI μ w1 1).bind fun x2 => (if i2 < x2 then (jgR μ 13 1 (.ref a)).bind fun w3 => (jaR μ w3 1).bind fun w4 => (jaI μ w4 i2).bind fun x5 => (if jrecv μ 13 (.ref a) = true then (jC d 227 [.ref a, .int x5] μ).bind fun p6 => jR (d + 1) 226 66 [.ref a, u1, .int i2, u3, u4, u5] (p6.1.toList ++ []) p6.2 else none) else jR (d + 1) 226 108 [.ref a, u1, .int 0, u3, u4, u5] [] μ) :=
  (l_iload_n (show gPG 226 44 = some (.iload_n 2) by decide +kernel) rfl).trans <|
  (l_aload_n (show gPG 226 45 = some (.aload_n 0) by decide +kernel) rfl jr_ref).trans <|
  (l_gR (show gPG 226 46 = some (.getfield 11) by decide +kernel) (kd := 13) (sl := 0) (tc := 1) (fin := 1) (z := 0) (by decide +kernel) (by decide +kernel) (by decide +kernel)).trans <| bd_cg fun w1 hw1 =>
  (l_iconst (show gPG 226 49 = some (.iconst 1) by decide +kernel) (c := 1) (by decide +kernel)).trans <|
  (l_iald (show gPG 226 50 = some (.iaload) by decide +kernel) ).trans <| bd_cg fun x2 hx2 =>
  (l_cmp (show gPG 226 51 = some (.if_icmp .ge 55) by decide +kernel) (t := 106) (by decide +kernel)).trans <| jm_ge.trans <| ite_cg (
  (l_aload_n (show gPG 226 54 = some (.aload_n 0) by decide +kernel) rfl jr_ref).trans <|
  (l_aload_n (show gPG 226 55 = some (.aload_n 0) by decide +kernel) rfl jr_ref).trans <|
  (l_gR (show gPG 226 56 = some (.getfield 17) by decide +kernel) (kd := 13) (sl := 1) (tc := 1) (fin := 1) (z := 0) (by decide +kernel) (by decide +kernel) (by decide +kernel)).trans <| bd_cg fun w3 hw3 =>
  (l_iconst (show gPG 226 59 = some (.iconst 1) by decide +kernel) (c := 1) (by decide +kernel)).trans <|
  (l_aald (show gPG 226 60 = some (.aaload) by decide +kernel) ).trans <| bd_cg fun w4 hw4 =>
  (l_iload_n (show gPG 226 61 = some (.iload_n 2) by decide +kernel) rfl).trans <|
  (l_iald (show gPG 226 62 = some (.iaload) by decide +kernel) ).trans <| bd_cg fun x5 hx5 =>
  l_callV (u := 1) (v := .ref a) (as := [.int x5]) (show gPG 226 63 = some (jinvI 1 442) by decide +kernel) (by decide) (cc := 227) (na := 2) (kd := 13) (q4 := 0) (z := 10) (rest := []) (by decide +kernel) (by decide +kernel)  rfl (show (2 : Nat) ≤ 2 by decide) rfl cs0 (by decide +kernel) (cai (cav jr_ref ca0))) (
  (l_iconst (show gPG 226 106 = some (.iconst 0) by decide +kernel) (c := 0) (by decide +kernel)).trans <|
  l_istore_n (show gPG 226 107 = some (.istore_n 2) by decide +kernel) (ls := [.ref a, u1, .int i2, u3, u4, u5]) (show (2 : Nat) < 6 by decide) (show _ = ([.ref a, u1, .int 0, u3, u4, u5] : List Value) from rfl))
theorem b226_66 (d : Nat) (μ : jM) (a : Nat) (u1 : Value) (i2 : Int32) (u3 : Value) (u4 : Value) (u5 : Value) (s0 : Int32) : jR d 226 66 [.ref a, u1, .int i2, u3, u4, u5] [.int s0] μ = (if s0 = 0 then jR d 226 100 [.ref a, u1, .int i2, u3, u4, u5] [] μ else (jgR μ 13 1 (.ref a)).bind fun w1 => (jaR μ w1 3).bind fun w2 => (jgR μ 13 0 (.ref a)).bind fun w3 => (jaI μ w3 3).bind fun x4 => (jgR μ 13 1 (.ref a)).bind fun w5 => (jaR μ w5 1).bind fun w6 => (jaI μ w6 i2).bind fun x7 => (jsI μ w2 x4 x7).bind fun m8 => (jgR m8 13 0 (.ref a)).bind fun w9 => (jaI m8 w9 3).bind fun x10 => (jsI m8 w9 3 (x10 + 1)).bind fun m11 => jR d 226 100 [.ref a, u1, .int i2, u3, u4, u5] [] m11) :=
  (l_cmp0 (show gPG 226 66 = some (.ifCond .eq 34) by decide +kernel) (t := 100) (by decide +kernel)).trans <| jm_eq.trans <| ite_cg (
  rfl) (
  (l_aload_n (show gPG 226 69 = some (.aload_n 0) by decide +kernel) rfl jr_ref).trans <|
  (l_gR (show gPG 226 70 = some (.getfield 17) by decide +kernel) (kd := 13) (sl := 1) (tc := 1) (fin := 1) (z := 0) (by decide +kernel) (by decide +kernel) (by decide +kernel)).trans <| bd_cg fun w1 hw1 =>
  (l_iconst (show gPG 226 73 = some (.iconst 3) by decide +kernel) (c := 3) (by decide +kernel)).trans <|
  (l_aald (show gPG 226 74 = some (.aaload) by decide +kernel) ).trans <| bd_cg fun w2 hw2 =>
  (l_aload_n (show gPG 226 75 = some (.aload_n 0) by decide +kernel) rfl jr_ref).trans <|
  (l_gR (show gPG 226 76 = some (.getfield 11) by decide +kernel) (kd := 13) (sl := 0) (tc := 1) (fin := 1) (z := 0) (by decide +kernel) (by decide +kernel) (by decide +kernel)).trans <| bd_cg fun w3 hw3 =>
  (l_iconst (show gPG 226 79 = some (.iconst 3) by decide +kernel) (c := 3) (by decide +kernel)).trans <|
  (l_iald (show gPG 226 80 = some (.iaload) by decide +kernel) ).trans <| bd_cg fun x4 hx4 =>
  (l_aload_n (show gPG 226 81 = some (.aload_n 0) by decide +kernel) rfl jr_ref).trans <|
  (l_gR (show gPG 226 82 = some (.getfield 17) by decide +kernel) (kd := 13) (sl := 1) (tc := 1) (fin := 1) (z := 0) (by decide +kernel) (by decide +kernel) (by decide +kernel)).trans <| bd_cg fun w5 hw5 =>
  (l_iconst (show gPG 226 85 = some (.iconst 1) by decide +kernel) (c := 1) (by decide +kernel)).trans <|
  (l_aald (show gPG 226 86 = some (.aaload) by decide +kernel) ).trans <| bd_cg fun w6 hw6 =>
  (l_iload_n (show gPG 226 87 = some (.iload_n 2) by decide +kernel) rfl).trans <|
  (l_iald (show gPG 226 88 = some (.iaload) by decide +kernel) ).trans <| bd_cg fun x7 hx7 =>
  (l_iast (show gPG 226 89 = some (.iastore) by decide +kernel) ).trans <| bd_cg fun m8 hm8 =>
  (l_aload_n (show gPG 226 90 = some (.aload_n 0) by decide +kernel) rfl jr_ref).trans <|
  (l_gR (show gPG 226 91 = some (.getfield 11) by decide +kernel) (kd := 13) (sl := 0) (tc := 1) (fin := 1) (z := 0) (by decide +kernel) (by decide +kernel) (by decide +kernel)).trans <| bd_cg fun w9 hw9 =>
  (l_iconst (show gPG 226 94 = some (.iconst 3) by decide +kernel) (c := 3) (by decide +kernel)).trans <|
  (l_dup2 (show gPG 226 95 = some (.dup2) by decide +kernel) rfl (jr_cat1 (jr_gR hw9))).trans <|
  (l_iald (show gPG 226 96 = some (.iaload) by decide +kernel) ).trans <| bd_cg fun x10 hx10 =>
  (l_iconst (show gPG 226 97 = some (.iconst 1) by decide +kernel) (c := 1) (by decide +kernel)).trans <|
  (l_iadd (show gPG 226 98 = some (.iadd) by decide +kernel) ).trans <|
  (l_iast (show gPG 226 99 = some (.iastore) by decide +kernel) ).trans <| bd_cg fun m11 hm11 =>
  rfl)
theorem b226_100 (d : Nat) (μ : jM) (a : Nat) (u1 : Value) (i2 : Int32) (u3 : Value) (u4 : Value) (u5 : Value) : jR d 226 100 [.ref a, u1, .int i2, u3, u4, u5] [] μ = jR d 226 44 [.ref a, u1, .int (i2 + 1), u3, u4, u5] [] μ :=
  (l_iinc (show gPG 226 100 = some (.iinc 2 1) by decide +kernel) (c := 1) (by decide +kernel) rfl (show _ = ([.ref a, u1, .int (i2 + 1), u3, u4, u5] : List Value) from rfl)).trans <|
  l_goto (show gPG 226 103 = some (.goto (-59)) by decide +kernel) (t := 44) (by decide +kernel)
theorem b226_108 (d : Nat) (μ : jM) (a : Nat) (u1 : Value) (i2 : Int32) (u3 : Value) (u4 : Value) (u5 : Value) : jR (d + 1) 226 108 [.ref a, u1, .int i2, u3, u4, u5] [] μ = (jgR μ 13 0 (.ref a)).bind fun w1 => (jaI μ w1 2).bind fun x2 => (if i2 < x2 then (jgR μ 13 1 (.ref a)).bind fun w3 => (jaR μ w3 2).bind fun w4 => (jaI μ w4 i2).bind fun x5 => (if jrecv μ 13 (.ref a) = true then (jC d 227 [.ref a, .int x5] μ).bind fun p6 => jR (d + 1) 226 132 [.ref a, u1, .int i2, .int x5, u4, u5] (p6.1.toList ++ []) p6.2 else none) else some (some (.int 1), μ)) :=
  (l_iload_n (show gPG 226 108 = some (.iload_n 2) by decide +kernel) rfl).trans <|
  (l_aload_n (show gPG 226 109 = some (.aload_n 0) by decide +kernel) rfl jr_ref).trans <|
  (l_gR (show gPG 226 110 = some (.getfield 11) by decide +kernel) (kd := 13) (sl := 0) (tc := 1) (fin := 1) (z := 0) (by decide +kernel) (by decide +kernel) (by decide +kernel)).trans <| bd_cg fun w1 hw1 =>
  (l_iconst (show gPG 226 113 = some (.iconst 2) by decide +kernel) (c := 2) (by decide +kernel)).trans <|
  (l_iald (show gPG 226 114 = some (.iaload) by decide +kernel) ).trans <| bd_cg fun x2 hx2 =>
  (l_cmp (show gPG 226 115 = some (.if_icmp .ge 107) by decide +kernel) (t := 222) (by decide +kernel)).trans <| jm_ge.trans <| ite_cg (
  (l_aload_n (show gPG 226 118 = some (.aload_n 0) by decide +kernel) rfl jr_ref).trans <|
  (l_gR (show gPG 226 119 = some (.getfield 17) by decide +kernel) (kd := 13) (sl := 1) (tc := 1) (fin := 1) (z := 0) (by decide +kernel) (by decide +kernel) (by decide +kernel)).trans <| bd_cg fun w3 hw3 =>
  (l_iconst (show gPG 226 122 = some (.iconst 2) by decide +kernel) (c := 2) (by decide +kernel)).trans <|
  (l_aald (show gPG 226 123 = some (.aaload) by decide +kernel) ).trans <| bd_cg fun w4 hw4 =>
  (l_iload_n (show gPG 226 124 = some (.iload_n 2) by decide +kernel) rfl).trans <|
  (l_iald (show gPG 226 125 = some (.iaload) by decide +kernel) ).trans <| bd_cg fun x5 hx5 =>
  (l_istore_n (show gPG 226 126 = some (.istore_n 3) by decide +kernel) (ls := [.ref a, u1, .int i2, u3, u4, u5]) (show (3 : Nat) < 6 by decide) (show _ = ([.ref a, u1, .int i2, .int x5, u4, u5] : List Value) from rfl)).trans <|
  (l_aload_n (show gPG 226 127 = some (.aload_n 0) by decide +kernel) rfl jr_ref).trans <|
  (l_iload_n (show gPG 226 128 = some (.iload_n 3) by decide +kernel) rfl).trans <|
  l_callV (u := 1) (v := .ref a) (as := [.int x5]) (show gPG 226 129 = some (jinvI 1 442) by decide +kernel) (by decide) (cc := 227) (na := 2) (kd := 13) (q4 := 0) (z := 10) (rest := []) (by decide +kernel) (by decide +kernel)  rfl (show (2 : Nat) ≤ 2 by decide) rfl cs0 (by decide +kernel) (cai (cav jr_ref ca0))) (
  (l_iconst (show gPG 226 222 = some (.iconst 1) by decide +kernel) (c := 1) (by decide +kernel)).trans <|
  l_iretK (show gPG 226 223 = some (.ireturn) by decide +kernel) (by decide +kernel))
theorem b226_132 (d : Nat) (μ : jM) (a : Nat) (u1 : Value) (i2 : Int32) (i3 : Int32) (u4 : Value) (u5 : Value) (s0 : Int32) : jR (d + 1) 226 132 [.ref a, u1, .int i2, .int i3, u4, u5] [.int s0] μ = (if s0 = 0 then jR (d + 1) 226 216 [.ref a, u1, .int i2, .int i3, u4, u5] [] μ else (if jrecv μ 13 (.ref a) = true then (jC d 194 [.ref a, .int 1, .int i3] μ).bind fun p1 => jR (d + 1) 226 141 [.ref a, u1, .int i2, .int i3, u4, u5] (p1.1.toList ++ []) p1.2 else none)) :=
  (l_cmp0 (show gPG 226 132 = some (.ifCond .eq 84) by decide +kernel) (t := 216) (by decide +kernel)).trans <| jm_eq.trans <| ite_cg (
  rfl) (
  (l_aload_n (show gPG 226 135 = some (.aload_n 0) by decide +kernel) rfl jr_ref).trans <|
  (l_iconst (show gPG 226 136 = some (.iconst 1) by decide +kernel) (c := 1) (by decide +kernel)).trans <|
  (l_iload_n (show gPG 226 137 = some (.iload_n 3) by decide +kernel) rfl).trans <|
  l_callV (u := 1) (v := .ref a) (as := [.int 1, .int i3]) (show gPG 226 138 = some (jinvI 1 301) by decide +kernel) (by decide) (cc := 194) (na := 3) (kd := 13) (q4 := 0) (z := 10) (rest := []) (by decide +kernel) (by decide +kernel)  rfl (show (3 : Nat) ≤ 3 by decide) rfl cs0 (by decide +kernel) (cai (cai (cav jr_ref ca0))))
theorem b226_141 (d : Nat) (μ : jM) (a : Nat) (u1 : Value) (i2 : Int32) (i3 : Int32) (u4 : Value) (u5 : Value) (s0 : Int32) : jR (d + 1) 226 141 [.ref a, u1, .int i2, .int i3, u4, u5] [.int s0] μ = (if s0 = (-1) then (if jrecv μ 13 (.ref a) = true then (jC d 233 [.ref a, .int i2] μ).bind fun p1 => jR (d + 1) 226 153 [.ref a, u1, .int i2, .int i3, u4, u5] (p1.1.toList ++ []) p1.2 else none) else jR (d + 1) 226 216 [.ref a, u1, .int i2, .int i3, u4, u5] [] μ) :=
  (l_iconst (show gPG 226 141 = some (.iconst (-1)) by decide +kernel) (c := (-1)) (by decide +kernel)).trans <|
  (l_cmp (show gPG 226 142 = some (.if_icmp .eq 6) by decide +kernel) (t := 148) (by decide +kernel)).trans <| jm_eq.trans <| ite_cg (
  (l_aload_n (show gPG 226 148 = some (.aload_n 0) by decide +kernel) rfl jr_ref).trans <|
  (l_iload_n (show gPG 226 149 = some (.iload_n 2) by decide +kernel) rfl).trans <|
  l_callV (u := 1) (v := .ref a) (as := [.int i2]) (show gPG 226 150 = some (jinvI 1 445) by decide +kernel) (by decide) (cc := 233) (na := 2) (kd := 13) (q4 := 0) (z := 10) (rest := []) (by decide +kernel) (by decide +kernel)  rfl (show (2 : Nat) ≤ 2 by decide) rfl cs0 (by decide +kernel) (cai (cav jr_ref ca0))) (
  l_goto (show gPG 226 145 = some (.goto 71) by decide +kernel) (t := 216) (by decide +kernel))
theorem b226_153 (d : Nat) (μ : jM) (a : Nat) (u1 : Value) (i2 : Int32) (i3 : Int32) (u4 : Value) (u5 : Value) (s0 : Int32) : jR d 226 153 [.ref a, u1, .int i2, .int i3, u4, u5] [.int s0] μ = (jgR μ 13 0 (.ref a)).bind fun w1 => (jaI μ w1 3).bind fun x2 => jR d 226 163 [.ref a, u1, .int i2, .int i3, .int s0, .int x2] [] μ :=
  (l_istore (show gPG 226 153 = some (.istore 4) by decide +kernel) (ls := [.ref a, u1, .int i2, .int i3, u4, u5]) (show (4 : Nat) < 6 by decide) (show _ = ([.ref a, u1, .int i2, .int i3, .int s0, u5] : List Value) from rfl)).trans <|
  (l_aload_n (show gPG 226 155 = some (.aload_n 0) by decide +kernel) rfl jr_ref).trans <|
  (l_gR (show gPG 226 156 = some (.getfield 11) by decide +kernel) (kd := 13) (sl := 0) (tc := 1) (fin := 1) (z := 0) (by decide +kernel) (by decide +kernel) (by decide +kernel)).trans <| bd_cg fun w1 hw1 =>
  (l_iconst (show gPG 226 159 = some (.iconst 3) by decide +kernel) (c := 3) (by decide +kernel)).trans <|
  (l_iald (show gPG 226 160 = some (.iaload) by decide +kernel) ).trans <| bd_cg fun x2 hx2 =>
  l_istore (show gPG 226 161 = some (.istore 5) by decide +kernel) (ls := [.ref a, u1, .int i2, .int i3, .int s0, u5]) (show (5 : Nat) < 6 by decide) (show _ = ([.ref a, u1, .int i2, .int i3, .int s0, .int x2] : List Value) from rfl)
theorem b226_163 (d : Nat) (μ : jM) (a : Nat) (u1 : Value) (i2 : Int32) (i3 : Int32) (i4 : Int32) (i5 : Int32) : jR d 226 163 [.ref a, u1, .int i2, .int i3, .int i4, .int i5] [] μ = (if i4 < i5 then (jgR μ 13 1 (.ref a)).bind fun w7 => (jaR μ w7 3).bind fun w8 => (jgR μ 13 1 (.ref a)).bind fun w9 => (jaR μ w9 3).bind fun w10 => (jaI μ w10 (i5 - 1)).bind fun x11 => (jsI μ w8 i5 x11).bind fun m12 => jR d 226 163 [.ref a, u1, .int i2, .int i3, .int i4, .int (i5 + (-1))] [] m12 else (jgR μ 13 1 (.ref a)).bind fun w1 => (jaR μ w1 3).bind fun w2 => (jsI μ w2 i4 i3).bind fun m3 => (jgR m3 13 0 (.ref a)).bind fun w4 => (jaI m3 w4 3).bind fun x5 => (jsI m3 w4 3 (x5 + 1)).bind fun m6 => jR d 226 216 [.ref a, u1, .int i2, .int i3, .int i4, .int i5] [] m6) :=
  (l_iload (show gPG 226 163 = some (.iload 5) by decide +kernel) rfl).trans <|
  (l_iload (show gPG 226 165 = some (.iload 4) by decide +kernel) rfl).trans <|
  (l_cmp (show gPG 226 167 = some (.if_icmp .le 29) by decide +kernel) (t := 196) (by decide +kernel)).trans <| jm_le.trans <| ite_cg (
  (l_aload_n (show gPG 226 170 = some (.aload_n 0) by decide +kernel) rfl jr_ref).trans <|
  (l_gR (show gPG 226 171 = some (.getfield 17) by decide +kernel) (kd := 13) (sl := 1) (tc := 1) (fin := 1) (z := 0) (by decide +kernel) (by decide +kernel) (by decide +kernel)).trans <| bd_cg fun w7 hw7 =>
  (l_iconst (show gPG 226 174 = some (.iconst 3) by decide +kernel) (c := 3) (by decide +kernel)).trans <|
  (l_aald (show gPG 226 175 = some (.aaload) by decide +kernel) ).trans <| bd_cg fun w8 hw8 =>
  (l_iload (show gPG 226 176 = some (.iload 5) by decide +kernel) rfl).trans <|
  (l_aload_n (show gPG 226 178 = some (.aload_n 0) by decide +kernel) rfl jr_ref).trans <|
  (l_gR (show gPG 226 179 = some (.getfield 17) by decide +kernel) (kd := 13) (sl := 1) (tc := 1) (fin := 1) (z := 0) (by decide +kernel) (by decide +kernel) (by decide +kernel)).trans <| bd_cg fun w9 hw9 =>
  (l_iconst (show gPG 226 182 = some (.iconst 3) by decide +kernel) (c := 3) (by decide +kernel)).trans <|
  (l_aald (show gPG 226 183 = some (.aaload) by decide +kernel) ).trans <| bd_cg fun w10 hw10 =>
  (l_iload (show gPG 226 184 = some (.iload 5) by decide +kernel) rfl).trans <|
  (l_iconst (show gPG 226 186 = some (.iconst 1) by decide +kernel) (c := 1) (by decide +kernel)).trans <|
  (l_isub (show gPG 226 187 = some (.isub) by decide +kernel) ).trans <|
  (l_iald (show gPG 226 188 = some (.iaload) by decide +kernel) ).trans <| bd_cg fun x11 hx11 =>
  (l_iast (show gPG 226 189 = some (.iastore) by decide +kernel) ).trans <| bd_cg fun m12 hm12 =>
  (l_iinc (show gPG 226 190 = some (.iinc 5 (-1)) by decide +kernel) (c := (-1)) (by decide +kernel) rfl (show _ = ([.ref a, u1, .int i2, .int i3, .int i4, .int (i5 + (-1))] : List Value) from rfl)).trans <|
  l_goto (show gPG 226 193 = some (.goto (-30)) by decide +kernel) (t := 163) (by decide +kernel)) (
  (l_aload_n (show gPG 226 196 = some (.aload_n 0) by decide +kernel) rfl jr_ref).trans <|
  (l_gR (show gPG 226 197 = some (.getfield 17) by decide +kernel) (kd := 13) (sl := 1) (tc := 1) (fin := 1) (z := 0) (by decide +kernel) (by decide +kernel) (by decide +kernel)).trans <| bd_cg fun w1 hw1 =>
  (l_iconst (show gPG 226 200 = some (.iconst 3) by decide +kernel) (c := 3) (by decide +kernel)).trans <|
  (l_aald (show gPG 226 201 = some (.aaload) by decide +kernel) ).trans <| bd_cg fun w2 hw2 =>
  (l_iload (show gPG 226 202 = some (.iload 4) by decide +kernel) rfl).trans <|
  (l_iload_n (show gPG 226 204 = some (.iload_n 3) by decide +kernel) rfl).trans <|
  (l_iast (show gPG 226 205 = some (.iastore) by decide +kernel) ).trans <| bd_cg fun m3 hm3 =>
  (l_aload_n (show gPG 226 206 = some (.aload_n 0) by decide +kernel) rfl jr_ref).trans <|
  (l_gR (show gPG 226 207 = some (.getfield 11) by decide +kernel) (kd := 13) (sl := 0) (tc := 1) (fin := 1) (z := 0) (by decide +kernel) (by decide +kernel) (by decide +kernel)).trans <| bd_cg fun w4 hw4 =>
  (l_iconst (show gPG 226 210 = some (.iconst 3) by decide +kernel) (c := 3) (by decide +kernel)).trans <|
  (l_dup2 (show gPG 226 211 = some (.dup2) by decide +kernel) rfl (jr_cat1 (jr_gR hw4))).trans <|
  (l_iald (show gPG 226 212 = some (.iaload) by decide +kernel) ).trans <| bd_cg fun x5 hx5 =>
  (l_iconst (show gPG 226 213 = some (.iconst 1) by decide +kernel) (c := 1) (by decide +kernel)).trans <|
  (l_iadd (show gPG 226 214 = some (.iadd) by decide +kernel) ).trans <|
  (l_iast (show gPG 226 215 = some (.iastore) by decide +kernel) ).trans <| bd_cg fun m6 hm6 =>
  rfl)
theorem b226_216 (d : Nat) (μ : jM) (a : Nat) (u1 : Value) (i2 : Int32) (u3 : Value) (u4 : Value) (u5 : Value) : jR d 226 216 [.ref a, u1, .int i2, u3, u4, u5] [] μ = jR d 226 108 [.ref a, u1, .int (i2 + 1), u3, u4, u5] [] μ :=
  (l_iinc (show gPG 226 216 = some (.iinc 2 1) by decide +kernel) (c := 1) (by decide +kernel) rfl (show _ = ([.ref a, u1, .int (i2 + 1), u3, u4, u5] : List Value) from rfl)).trans <|
  l_goto (show gPG 226 219 = some (.goto (-111)) by decide +kernel) (t := 108) (by decide +kernel)
-- Ref.isIn
theorem b227_0 (d : Nat) (μ : jM) (a : Nat) (i1 : Int32) : jR (d + 1) 227 0 [.ref a, .int i1, .retAddr 0, .retAddr 0, .retAddr 0] [] μ = (if jrecv μ 13 (.ref a) = true then (jC d 194 [.ref a, .int 0, .int i1] μ).bind fun p1 => jR (d + 1) 227 6 [.ref a, .int i1, .retAddr 0, .retAddr 0, .retAddr 0] (p1.1.toList ++ []) p1.2 else none) :=
  (l_aload_n (show gPG 227 0 = some (.aload_n 0) by decide +kernel) rfl jr_ref).trans <|
  (l_iconst (show gPG 227 1 = some (.iconst 0) by decide +kernel) (c := 0) (by decide +kernel)).trans <|
  (l_iload_n (show gPG 227 2 = some (.iload_n 1) by decide +kernel) rfl).trans <|
  l_callV (u := 1) (v := .ref a) (as := [.int 0, .int i1]) (show gPG 227 3 = some (jinvI 1 301) by decide +kernel) (by decide) (cc := 194) (na := 3) (kd := 13) (q4 := 0) (z := 10) (rest := []) (by decide +kernel) (by decide +kernel)  rfl (show (3 : Nat) ≤ 3 by decide) rfl cs0 (by decide +kernel) (cai (cai (cav jr_ref ca0)))
theorem b227_6 (d : Nat) (μ : jM) (a : Nat) (i1 : Int32) (u2 : Value) (u3 : Value) (u4 : Value) (s0 : Int32) : jR (d + 1) 227 6 [.ref a, .int i1, u2, u3, u4] [.int s0] μ = (if jrecv μ 13 (.ref a) = true then (jC d 194 [.ref a, .int 1, .int i1] μ).bind fun p1 => jR (d + 1) 227 13 [.ref a, .int i1, .int s0, u3, u4] (p1.1.toList ++ []) p1.2 else none) :=
  (l_istore_n (show gPG 227 6 = some (.istore_n 2) by decide +kernel) (ls := [.ref a, .int i1, u2, u3, u4]) (show (2 : Nat) < 5 by decide) (show _ = ([.ref a, .int i1, .int s0, u3, u4] : List Value) from rfl)).trans <|
  (l_aload_n (show gPG 227 7 = some (.aload_n 0) by decide +kernel) rfl jr_ref).trans <|
  (l_iconst (show gPG 227 8 = some (.iconst 1) by decide +kernel) (c := 1) (by decide +kernel)).trans <|
  (l_iload_n (show gPG 227 9 = some (.iload_n 1) by decide +kernel) rfl).trans <|
  l_callV (u := 1) (v := .ref a) (as := [.int 1, .int i1]) (show gPG 227 10 = some (jinvI 1 301) by decide +kernel) (by decide) (cc := 194) (na := 3) (kd := 13) (q4 := 0) (z := 10) (rest := []) (by decide +kernel) (by decide +kernel)  rfl (show (3 : Nat) ≤ 3 by decide) rfl cs0 (by decide +kernel) (cai (cai (cav jr_ref ca0)))
theorem b227_13 (d : Nat) (μ : jM) (a : Nat) (i1 : Int32) (i2 : Int32) (u3 : Value) (u4 : Value) (s0 : Int32) : jR (d + 1) 227 13 [.ref a, .int i1, .int i2, u3, u4] [.int s0] μ = (if jrecv μ 13 (.ref a) = true then (jC d 194 [.ref a, .int 2, .int i1] μ).bind fun p1 => jR (d + 1) 227 20 [.ref a, .int i1, .int i2, .int s0, u4] (p1.1.toList ++ []) p1.2 else none) :=
  (l_istore_n (show gPG 227 13 = some (.istore_n 3) by decide +kernel) (ls := [.ref a, .int i1, .int i2, u3, u4]) (show (3 : Nat) < 5 by decide) (show _ = ([.ref a, .int i1, .int i2, .int s0, u4] : List Value) from rfl)).trans <|
  (l_aload_n (show gPG 227 14 = some (.aload_n 0) by decide +kernel) rfl jr_ref).trans <|
  (l_iconst (show gPG 227 15 = some (.iconst 2) by decide +kernel) (c := 2) (by decide +kernel)).trans <|
  (l_iload_n (show gPG 227 16 = some (.iload_n 1) by decide +kernel) rfl).trans <|
  l_callV (u := 1) (v := .ref a) (as := [.int 2, .int i1]) (show gPG 227 17 = some (jinvI 1 301) by decide +kernel) (by decide) (cc := 194) (na := 3) (kd := 13) (q4 := 0) (z := 10) (rest := []) (by decide +kernel) (by decide +kernel)  rfl (show (3 : Nat) ≤ 3 by decide) rfl cs0 (by decide +kernel) (cai (cai (cav jr_ref ca0)))
theorem b227_20 (d : Nat) (μ : jM) (a : Nat) (u1 : Value) (i2 : Int32) (i3 : Int32) (u4 : Value) (s0 : Int32) : jR d 227 20 [.ref a, u1, .int i2, .int i3, u4] [.int s0] μ = (if i3 = (-1) then jR d 227 35 [.ref a, u1, .int i2, .int i3, .int s0] [] μ else (if s0 = (-1) then jR d 227 35 [.ref a, u1, .int i2, .int i3, .int s0] [] μ else some (some (.int 1), μ))) :=
  (l_istore (show gPG 227 20 = some (.istore 4) by decide +kernel) (ls := [.ref a, u1, .int i2, .int i3, u4]) (show (4 : Nat) < 5 by decide) (show _ = ([.ref a, u1, .int i2, .int i3, .int s0] : List Value) from rfl)).trans <|
  (l_iload_n (show gPG 227 22 = some (.iload_n 3) by decide +kernel) rfl).trans <|
  (l_iconst (show gPG 227 23 = some (.iconst (-1)) by decide +kernel) (c := (-1)) (by decide +kernel)).trans <|
  (l_cmp (show gPG 227 24 = some (.if_icmp .eq 11) by decide +kernel) (t := 35) (by decide +kernel)).trans <| jm_eq.trans <| ite_cg (
  rfl) (
  (l_iload (show gPG 227 27 = some (.iload 4) by decide +kernel) rfl).trans <|
  (l_iconst (show gPG 227 29 = some (.iconst (-1)) by decide +kernel) (c := (-1)) (by decide +kernel)).trans <|
  (l_cmp (show gPG 227 30 = some (.if_icmp .eq 5) by decide +kernel) (t := 35) (by decide +kernel)).trans <| jm_eq.trans <| ite_cg (
  rfl) (
  (l_iconst (show gPG 227 33 = some (.iconst 1) by decide +kernel) (c := 1) (by decide +kernel)).trans <|
  l_iretK (show gPG 227 34 = some (.ireturn) by decide +kernel) (by decide +kernel)))
theorem b227_35 (d : Nat) (μ : jM) (a : Nat) (u1 : Value) (i2 : Int32) (i3 : Int32) (i4 : Int32) : jR d 227 35 [.ref a, u1, .int i2, .int i3, .int i4] [] μ = (if i3 = (-1) then (if i4 = (-1) then some (some (.int 0), μ) else jR d 227 48 [.ref a, u1, .int i2, .int i3, .int i4] [] μ) else jR d 227 48 [.ref a, u1, .int i2, .int i3, .int i4] [] μ) :=
  (l_iload_n (show gPG 227 35 = some (.iload_n 3) by decide +kernel) rfl).trans <|
  (l_iconst (show gPG 227 36 = some (.iconst (-1)) by decide +kernel) (c := (-1)) (by decide +kernel)).trans <|
  (l_cmp (show gPG 227 37 = some (.if_icmp .ne 11) by decide +kernel) (t := 48) (by decide +kernel)).trans <| jm_ne.trans <| ite_cg (
  (l_iload (show gPG 227 40 = some (.iload 4) by decide +kernel) rfl).trans <|
  (l_iconst (show gPG 227 42 = some (.iconst (-1)) by decide +kernel) (c := (-1)) (by decide +kernel)).trans <|
  (l_cmp (show gPG 227 43 = some (.if_icmp .ne 5) by decide +kernel) (t := 48) (by decide +kernel)).trans <| jm_ne.trans <| ite_cg (
  (l_iconst (show gPG 227 46 = some (.iconst 0) by decide +kernel) (c := 0) (by decide +kernel)).trans <|
  l_iretK (show gPG 227 47 = some (.ireturn) by decide +kernel) (by decide +kernel)) (
  rfl)) (
  rfl)
theorem b227_48 (d : Nat) (μ : jM) (a : Nat) (u1 : Value) (i2 : Int32) (i3 : Int32) (i4 : Int32) : jR (d + 1) 227 48 [.ref a, u1, .int i2, .int i3, .int i4] [] μ = (if i2 = (-1) then jR (d + 1) 227 82 [.ref a, u1, .int i2, .int i3, .int i4] [] μ else (if i3 = (-1) then (if jrecv μ 13 (.ref a) = true then (jC d 228 [.ref a, .int 2, .int i4, .int i2] μ).bind fun p1 => jR (d + 1) 227 79 [.ref a, u1, .int i2, .int i3, .int i4] (p1.1.toList ++ []) p1.2 else none) else (if jrecv μ 13 (.ref a) = true then (jC d 228 [.ref a, .int 1, .int i3, .int i2] μ).bind fun p2 => jR (d + 1) 227 65 [.ref a, u1, .int i2, .int i3, .int i4] (p2.1.toList ++ []) p2.2 else none))) :=
  (l_iload_n (show gPG 227 48 = some (.iload_n 2) by decide +kernel) rfl).trans <|
  (l_iconst (show gPG 227 49 = some (.iconst (-1)) by decide +kernel) (c := (-1)) (by decide +kernel)).trans <|
  (l_cmp (show gPG 227 50 = some (.if_icmp .eq 32) by decide +kernel) (t := 82) (by decide +kernel)).trans <| jm_eq.trans <| ite_cg (
  rfl) (
  (l_iload_n (show gPG 227 53 = some (.iload_n 3) by decide +kernel) rfl).trans <|
  (l_iconst (show gPG 227 54 = some (.iconst (-1)) by decide +kernel) (c := (-1)) (by decide +kernel)).trans <|
  (l_cmp (show gPG 227 55 = some (.if_icmp .eq 16) by decide +kernel) (t := 71) (by decide +kernel)).trans <| jm_eq.trans <| ite_cg (
  (l_aload_n (show gPG 227 71 = some (.aload_n 0) by decide +kernel) rfl jr_ref).trans <|
  (l_iconst (show gPG 227 72 = some (.iconst 2) by decide +kernel) (c := 2) (by decide +kernel)).trans <|
  (l_iload (show gPG 227 73 = some (.iload 4) by decide +kernel) rfl).trans <|
  (l_iload_n (show gPG 227 75 = some (.iload_n 2) by decide +kernel) rfl).trans <|
  l_callV (u := 1) (v := .ref a) (as := [.int 2, .int i4, .int i2]) (show gPG 227 76 = some (jinvI 1 439) by decide +kernel) (by decide) (cc := 228) (na := 4) (kd := 13) (q4 := 0) (z := 10) (rest := []) (by decide +kernel) (by decide +kernel)  rfl (show (4 : Nat) ≤ 4 by decide) rfl cs0 (by decide +kernel) (cai (cai (cai (cav jr_ref ca0))))) (
  (l_aload_n (show gPG 227 58 = some (.aload_n 0) by decide +kernel) rfl jr_ref).trans <|
  (l_iconst (show gPG 227 59 = some (.iconst 1) by decide +kernel) (c := 1) (by decide +kernel)).trans <|
  (l_iload_n (show gPG 227 60 = some (.iload_n 3) by decide +kernel) rfl).trans <|
  (l_iload_n (show gPG 227 61 = some (.iload_n 2) by decide +kernel) rfl).trans <|
  l_callV (u := 1) (v := .ref a) (as := [.int 1, .int i3, .int i2]) (show gPG 227 62 = some (jinvI 1 439) by decide +kernel) (by decide) (cc := 228) (na := 4) (kd := 13) (q4 := 0) (z := 10) (rest := []) (by decide +kernel) (by decide +kernel)  rfl (show (4 : Nat) ≤ 4 by decide) rfl cs0 (by decide +kernel) (cai (cai (cai (cav jr_ref ca0))))))
theorem b227_65 (d : Nat) (μ : jM) (u0 : Value) (u1 : Value) (u2 : Value) (u3 : Value) (u4 : Value) (s0 : Int32) : jR d 227 65 [u0, u1, u2, u3, u4] [.int s0] μ = (if s0 = 0 then jR d 227 86 [u0, u1, u2, u3, u4] [] μ else jR d 227 82 [u0, u1, u2, u3, u4] [] μ) :=
  (l_cmp0 (show gPG 227 65 = some (.ifCond .eq 21) by decide +kernel) (t := 86) (by decide +kernel)).trans <| jm_eq.trans <| ite_cg (
  rfl) (
  l_goto (show gPG 227 68 = some (.goto 14) by decide +kernel) (t := 82) (by decide +kernel))
theorem b227_79 (d : Nat) (μ : jM) (u0 : Value) (u1 : Value) (u2 : Value) (u3 : Value) (u4 : Value) (s0 : Int32) : jR d 227 79 [u0, u1, u2, u3, u4] [.int s0] μ = (if s0 = 0 then jR d 227 86 [u0, u1, u2, u3, u4] [] μ else jR d 227 82 [u0, u1, u2, u3, u4] [] μ) :=
  (l_cmp0 (show gPG 227 79 = some (.ifCond .eq 7) by decide +kernel) (t := 86) (by decide +kernel)).trans <| jm_eq.trans <| ite_cg (
  rfl) (
  rfl)
theorem b227_82 (d : Nat) (μ : jM) (u0 : Value) (u1 : Value) (u2 : Value) (u3 : Value) (u4 : Value) : jR d 227 82 [u0, u1, u2, u3, u4] [] μ = jR d 227 87 [u0, u1, u2, u3, u4] [.int 1] μ :=
  (l_iconst (show gPG 227 82 = some (.iconst 1) by decide +kernel) (c := 1) (by decide +kernel)).trans <|
  l_goto (show gPG 227 83 = some (.goto 4) by decide +kernel) (t := 87) (by decide +kernel)
theorem b227_86 (d : Nat) (μ : jM) (u0 : Value) (u1 : Value) (u2 : Value) (u3 : Value) (u4 : Value) : jR d 227 86 [u0, u1, u2, u3, u4] [] μ = jR d 227 87 [u0, u1, u2, u3, u4] [.int 0] μ :=
  l_iconst (show gPG 227 86 = some (.iconst 0) by decide +kernel) (c := 0) (by decide +kernel)
theorem b227_87 (d : Nat) (μ : jM) (u0 : Value) (u1 : Value) (u2 : Value) (u3 : Value) (u4 : Value) (s0 : Int32) : jR d 227 87 [u0, u1, u2, u3, u4] [.int s0] μ = (if jrf 4 s0 = true then some (some (.int s0), μ) else none) :=
  l_iret (show gPG 227 87 = some (.ireturn) by decide +kernel) (rc := 4) (by decide +kernel)
-- Ref.isChangedRow
theorem b228_0 (d : Nat) (μ : jM) (a : Nat) (i1 : Int32) (i2 : Int32) (i3 : Int32) : jR d 228 0 [.ref a, .int i1, .int i2, .int i3, .retAddr 0] [] μ = jR d 228 3 [.ref a, .int i1, .int i2, .int i3, .int 0] [] μ :=
  (l_iconst (show gPG 228 0 = some (.iconst 0) by decide +kernel) (c := 0) (by decide +kernel)).trans <|
  l_istore (show gPG 228 1 = some (.istore 4) by decide +kernel) (ls := [.ref a, .int i1, .int i2, .int i3, .retAddr 0]) (show (4 : Nat) < 5 by decide) (show _ = ([.ref a, .int i1, .int i2, .int i3, .int 0] : List Value) from rfl)
theorem b228_3 (d : Nat) (μ : jM) (a : Nat) (i1 : Int32) (i2 : Int32) (i3 : Int32) (i4 : Int32) : jR (d + 1) 228 3 [.ref a, .int i1, .int i2, .int i3, .int i4] [] μ = (if i4 < 3 then (if jrecv μ 13 (.ref a) = true then (jC d 229 [.ref a, .int i1, .int i2, .int 0, .int i3, .int i4] μ).bind fun p1 => jR (d + 1) 228 19 [.ref a, .int i1, .int i2, .int i3, .int i4] (p1.1.toList ++ []) p1.2 else none) else some (some (.int 0), μ)) :=
  (l_iload (show gPG 228 3 = some (.iload 4) by decide +kernel) rfl).trans <|
  (l_iconst (show gPG 228 5 = some (.iconst 3) by decide +kernel) (c := 3) (by decide +kernel)).trans <|
  (l_cmp (show gPG 228 6 = some (.if_icmp .ge 43) by decide +kernel) (t := 49) (by decide +kernel)).trans <| jm_ge.trans <| ite_cg (
  (l_aload_n (show gPG 228 9 = some (.aload_n 0) by decide +kernel) rfl jr_ref).trans <|
  (l_iload_n (show gPG 228 10 = some (.iload_n 1) by decide +kernel) rfl).trans <|
  (l_iload_n (show gPG 228 11 = some (.iload_n 2) by decide +kernel) rfl).trans <|
  (l_iconst (show gPG 228 12 = some (.iconst 0) by decide +kernel) (c := 0) (by decide +kernel)).trans <|
  (l_iload_n (show gPG 228 13 = some (.iload_n 3) by decide +kernel) rfl).trans <|
  (l_iload (show gPG 228 14 = some (.iload 4) by decide +kernel) rfl).trans <|
  l_callV (u := 1) (v := .ref a) (as := [.int i1, .int i2, .int 0, .int i3, .int i4]) (show gPG 228 16 = some (jinvI 1 415) by decide +kernel) (by decide) (cc := 229) (na := 6) (kd := 13) (q4 := 0) (z := 10) (rest := []) (by decide +kernel) (by decide +kernel)  rfl (show (6 : Nat) ≤ 6 by decide) rfl cs0 (by decide +kernel) (cai (cai (cai (cai (cai (cav jr_ref ca0))))))) (
  (l_iconst (show gPG 228 49 = some (.iconst 0) by decide +kernel) (c := 0) (by decide +kernel)).trans <|
  l_iretK (show gPG 228 50 = some (.ireturn) by decide +kernel) (by decide +kernel))
theorem b228_19 (d : Nat) (μ : jM) (a : Nat) (i1 : Int32) (i2 : Int32) (i3 : Int32) (i4 : Int32) (s0 : Int32) : jR (d + 1) 228 19 [.ref a, .int i1, .int i2, .int i3, .int i4] [.int s0] μ = (if s0 = 0 then jR (d + 1) 228 41 [.ref a, .int i1, .int i2, .int i3, .int i4] [] μ else (if jrecv μ 13 (.ref a) = true then (jC d 232 [.ref a, .int i1, .int i2, .int i4] μ).bind fun p1 => jR (d + 1) 228 30 [.ref a, .int i1, .int i2, .int i3, .int i4] (p1.1.toList ++ []) p1.2 else none)) :=
  (l_cmp0 (show gPG 228 19 = some (.ifCond .eq 22) by decide +kernel) (t := 41) (by decide +kernel)).trans <| jm_eq.trans <| ite_cg (
  rfl) (
  (l_aload_n (show gPG 228 22 = some (.aload_n 0) by decide +kernel) rfl jr_ref).trans <|
  (l_iload_n (show gPG 228 23 = some (.iload_n 1) by decide +kernel) rfl).trans <|
  (l_iload_n (show gPG 228 24 = some (.iload_n 2) by decide +kernel) rfl).trans <|
  (l_iload (show gPG 228 25 = some (.iload 4) by decide +kernel) rfl).trans <|
  l_callV (u := 1) (v := .ref a) (as := [.int i1, .int i2, .int i4]) (show gPG 228 27 = some (jinvI 1 419) by decide +kernel) (by decide) (cc := 232) (na := 4) (kd := 13) (q4 := 0) (z := 10) (rest := []) (by decide +kernel) (by decide +kernel)  rfl (show (4 : Nat) ≤ 4 by decide) rfl cs0 (by decide +kernel) (cai (cai (cai (cav jr_ref ca0)))))
theorem b228_30 (d : Nat) (μ : jM) (a : Nat) (i1 : Int32) (i2 : Int32) (i3 : Int32) (i4 : Int32) (s0 : Int32) : jR (d + 1) 228 30 [.ref a, .int i1, .int i2, .int i3, .int i4] [.int s0] μ = (if jrecv μ 13 (.ref a) = true then (jC d 232 [.ref a, .int 0, .int i3, .int i4] μ).bind fun p1 => jR (d + 1) 228 38 [.ref a, .int i1, .int i2, .int i3, .int i4] (p1.1.toList ++ [.int s0]) p1.2 else none) :=
  (l_aload_n (show gPG 228 30 = some (.aload_n 0) by decide +kernel) rfl jr_ref).trans <|
  (l_iconst (show gPG 228 31 = some (.iconst 0) by decide +kernel) (c := 0) (by decide +kernel)).trans <|
  (l_iload_n (show gPG 228 32 = some (.iload_n 3) by decide +kernel) rfl).trans <|
  (l_iload (show gPG 228 33 = some (.iload 4) by decide +kernel) rfl).trans <|
  l_callV (u := 1) (v := .ref a) (as := [.int 0, .int i3, .int i4]) (show gPG 228 35 = some (jinvI 1 419) by decide +kernel) (by decide) (cc := 232) (na := 4) (kd := 13) (q4 := 0) (z := 10) (rest := [.int s0]) (by decide +kernel) (by decide +kernel)  rfl (show (4 : Nat) ≤ 5 by decide) rfl (csi cs0) (by decide +kernel) (cai (cai (cai (cav jr_ref ca0))))
theorem b228_38 (d : Nat) (μ : jM) (a : Nat) (i1 : Int32) (i2 : Int32) (i3 : Int32) (i4 : Int32) (s0 : Int32) (s1 : Int32) : jR d 228 38 [.ref a, .int i1, .int i2, .int i3, .int i4] [.int s1, .int s0] μ = (if s0 = s1 then jR d 228 3 [.ref a, .int i1, .int i2, .int i3, .int (i4 + 1)] [] μ else jR d 228 41 [.ref a, .int i1, .int i2, .int i3, .int i4] [] μ) :=
  (l_cmp (show gPG 228 38 = some (.if_icmp .eq 5) by decide +kernel) (t := 43) (by decide +kernel)).trans <| jm_eq.trans <| ite_cg (
  (l_iinc (show gPG 228 43 = some (.iinc 4 1) by decide +kernel) (c := 1) (by decide +kernel) rfl (show _ = ([.ref a, .int i1, .int i2, .int i3, .int (i4 + 1)] : List Value) from rfl)).trans <|
  l_goto (show gPG 228 46 = some (.goto (-43)) by decide +kernel) (t := 3) (by decide +kernel)) (
  rfl)
theorem b228_41 (d : Nat) (μ : jM) (u0 : Value) (u1 : Value) (u2 : Value) (u3 : Value) (u4 : Value) : jR d 228 41 [u0, u1, u2, u3, u4] [] μ = some (some (.int 1), μ) :=
  (l_iconst (show gPG 228 41 = some (.iconst 1) by decide +kernel) (c := 1) (by decide +kernel)).trans <|
  l_iretK (show gPG 228 42 = some (.ireturn) by decide +kernel) (by decide +kernel)
-- Ref.areAlike
theorem b229_0 (d : Nat) (μ : jM) (a : Nat) (i1 : Int32) (i2 : Int32) (i3 : Int32) (i4 : Int32) (i5 : Int32) : jR (d + 1) 229 0 [.ref a, .int i1, .int i2, .int i3, .int i4, .int i5, .retAddr 0, .retAddr 0, .retAddr 0] [] μ = (if jrecv μ 13 (.ref a) = true then (jC d 230 [.ref a, .int i1, .int i2, .int i5] μ).bind fun p1 => jR (d + 1) 229 8 [.ref a, .int i1, .int i2, .int i3, .int i4, .int i5, .retAddr 0, .retAddr 0, .retAddr 0] (p1.1.toList ++ []) p1.2 else none) :=
  (l_aload_n (show gPG 229 0 = some (.aload_n 0) by decide +kernel) rfl jr_ref).trans <|
  (l_iload_n (show gPG 229 1 = some (.iload_n 1) by decide +kernel) rfl).trans <|
  (l_iload_n (show gPG 229 2 = some (.iload_n 2) by decide +kernel) rfl).trans <|
  (l_iload (show gPG 229 3 = some (.iload 5) by decide +kernel) rfl).trans <|
  l_callV (u := 1) (v := .ref a) (as := [.int i1, .int i2, .int i5]) (show gPG 229 5 = some (jinvI 1 408) by decide +kernel) (by decide) (cc := 230) (na := 4) (kd := 13) (q4 := 0) (z := 10) (rest := []) (by decide +kernel) (by decide +kernel)  rfl (show (4 : Nat) ≤ 4 by decide) rfl cs0 (by decide +kernel) (cai (cai (cai (cav jr_ref ca0))))
theorem b229_8 (d : Nat) (μ : jM) (a : Nat) (i1 : Int32) (i2 : Int32) (i3 : Int32) (i4 : Int32) (i5 : Int32) (u6 : Value) (u7 : Value) (u8 : Value) (s0 : Int32) : jR (d + 1) 229 8 [.ref a, .int i1, .int i2, .int i3, .int i4, .int i5, u6, u7, u8] [.int s0] μ = (if jrecv μ 13 (.ref a) = true then (jC d 230 [.ref a, .int i3, .int i4, .int i5] μ).bind fun p1 => jR (d + 1) 229 21 [.ref a, .int i1, .int i2, .int i3, .int i4, .int i5, .int s0, u7, u8] (p1.1.toList ++ [.int s0]) p1.2 else none) :=
  (l_istore (show gPG 229 8 = some (.istore 6) by decide +kernel) (ls := [.ref a, .int i1, .int i2, .int i3, .int i4, .int i5, u6, u7, u8]) (show (6 : Nat) < 9 by decide) (show _ = ([.ref a, .int i1, .int i2, .int i3, .int i4, .int i5, .int s0, u7, u8] : List Value) from rfl)).trans <|
  (l_iload (show gPG 229 10 = some (.iload 6) by decide +kernel) rfl).trans <|
  (l_aload_n (show gPG 229 12 = some (.aload_n 0) by decide +kernel) rfl jr_ref).trans <|
  (l_iload_n (show gPG 229 13 = some (.iload_n 3) by decide +kernel) rfl).trans <|
  (l_iload (show gPG 229 14 = some (.iload 4) by decide +kernel) rfl).trans <|
  (l_iload (show gPG 229 16 = some (.iload 5) by decide +kernel) rfl).trans <|
  l_callV (u := 1) (v := .ref a) (as := [.int i3, .int i4, .int i5]) (show gPG 229 18 = some (jinvI 1 408) by decide +kernel) (by decide) (cc := 230) (na := 4) (kd := 13) (q4 := 0) (z := 10) (rest := [.int s0]) (by decide +kernel) (by decide +kernel)  rfl (show (4 : Nat) ≤ 5 by decide) rfl (csi cs0) (by decide +kernel) (cai (cai (cai (cav jr_ref ca0))))
theorem b229_21 (d : Nat) (μ : jM) (a : Nat) (i1 : Int32) (i2 : Int32) (i3 : Int32) (i4 : Int32) (i5 : Int32) (i6 : Int32) (u7 : Value) (u8 : Value) (s0 : Int32) (s1 : Int32) : jR (d + 1) 229 21 [.ref a, .int i1, .int i2, .int i3, .int i4, .int i5, .int i6, u7, u8] [.int s1, .int s0] μ = (if s0 = s1 then (if i6 = 0 then some (some (.int 1), μ) else (if i6 = 1 then (jgR μ 13 3 (.ref a)).bind fun w8 => (jaR μ w8 i1).bind fun w9 => (jaI μ w9 ((3 * i2) + i5)).bind fun x10 => (jgR μ 13 3 (.ref a)).bind fun w11 => (jaR μ w11 i3).bind fun w12 => (jaI μ w12 ((3 * i4) + i5)).bind fun x13 => (if x10 = x13 then jR (d + 1) 229 106 [.ref a, .int i1, .int i2, .int i3, .int i4, .int i5, .int i6, .int ((3 * i2) + i5), .int ((3 * i4) + i5)] [.int 1] μ else jR (d + 1) 229 106 [.ref a, .int i1, .int i2, .int i3, .int i4, .int i5, .int i6, .int ((3 * i2) + i5), .int ((3 * i4) + i5)] [.int 0] μ) else (jgR μ 13 5 (.ref a)).bind fun w1 => (jaR μ w1 i1).bind fun w2 => (jaR μ w2 ((3 * i2) + i5)).bind fun w3 => (jgR μ 13 5 (.ref a)).bind fun w4 => (jaR μ w4 i3).bind fun w5 => (jaR μ w5 ((3 * i4) + i5)).bind fun w6 => (jC d 231 [w3, w6] μ).bind fun p7 => jR (d + 1) 229 106 [.ref a, .int i1, .int i2, .int i3, .int i4, .int i5, .int i6, .int ((3 * i2) + i5), .int ((3 * i4) + i5)] (p7.1.toList ++ []) p7.2)) else some (some (.int 0), μ)) :=
  (l_cmp (show gPG 229 21 = some (.if_icmp .eq 5) by decide +kernel) (t := 26) (by decide +kernel)).trans <| jm_eq.trans <| ite_cg (
  (l_iload (show gPG 229 26 = some (.iload 6) by decide +kernel) rfl).trans <|
  (l_cmp0 (show gPG 229 28 = some (.ifCond .ne 5) by decide +kernel) (t := 33) (by decide +kernel)).trans <| jm_ne.trans <| ite_cg (
  (l_iconst (show gPG 229 31 = some (.iconst 1) by decide +kernel) (c := 1) (by decide +kernel)).trans <|
  l_iretK (show gPG 229 32 = some (.ireturn) by decide +kernel) (by decide +kernel)) (
  (l_iconst (show gPG 229 33 = some (.iconst 3) by decide +kernel) (c := 3) (by decide +kernel)).trans <|
  (l_iload_n (show gPG 229 34 = some (.iload_n 2) by decide +kernel) rfl).trans <|
  (l_imul (show gPG 229 35 = some (.imul) by decide +kernel) ).trans <|
  (l_iload (show gPG 229 36 = some (.iload 5) by decide +kernel) rfl).trans <|
  (l_iadd (show gPG 229 38 = some (.iadd) by decide +kernel) ).trans <|
  (l_istore (show gPG 229 39 = some (.istore 7) by decide +kernel) (ls := [.ref a, .int i1, .int i2, .int i3, .int i4, .int i5, .int i6, u7, u8]) (show (7 : Nat) < 9 by decide) (show _ = ([.ref a, .int i1, .int i2, .int i3, .int i4, .int i5, .int i6, .int ((3 * i2) + i5), u8] : List Value) from rfl)).trans <|
  (l_iconst (show gPG 229 41 = some (.iconst 3) by decide +kernel) (c := 3) (by decide +kernel)).trans <|
  (l_iload (show gPG 229 42 = some (.iload 4) by decide +kernel) rfl).trans <|
  (l_imul (show gPG 229 44 = some (.imul) by decide +kernel) ).trans <|
  (l_iload (show gPG 229 45 = some (.iload 5) by decide +kernel) rfl).trans <|
  (l_iadd (show gPG 229 47 = some (.iadd) by decide +kernel) ).trans <|
  (l_istore (show gPG 229 48 = some (.istore 8) by decide +kernel) (ls := [.ref a, .int i1, .int i2, .int i3, .int i4, .int i5, .int i6, .int ((3 * i2) + i5), u8]) (show (8 : Nat) < 9 by decide) (show _ = ([.ref a, .int i1, .int i2, .int i3, .int i4, .int i5, .int i6, .int ((3 * i2) + i5), .int ((3 * i4) + i5)] : List Value) from rfl)).trans <|
  (l_iload (show gPG 229 50 = some (.iload 6) by decide +kernel) rfl).trans <|
  (l_iconst (show gPG 229 52 = some (.iconst 1) by decide +kernel) (c := 1) (by decide +kernel)).trans <|
  (l_cmp (show gPG 229 53 = some (.if_icmp .ne 32) by decide +kernel) (t := 85) (by decide +kernel)).trans <| jm_ne.trans <| ite_cg (
  (l_aload_n (show gPG 229 56 = some (.aload_n 0) by decide +kernel) rfl jr_ref).trans <|
  (l_gR (show gPG 229 57 = some (.getfield 23) by decide +kernel) (kd := 13) (sl := 3) (tc := 1) (fin := 1) (z := 0) (by decide +kernel) (by decide +kernel) (by decide +kernel)).trans <| bd_cg fun w8 hw8 =>
  (l_iload_n (show gPG 229 60 = some (.iload_n 1) by decide +kernel) rfl).trans <|
  (l_aald (show gPG 229 61 = some (.aaload) by decide +kernel) ).trans <| bd_cg fun w9 hw9 =>
  (l_iload (show gPG 229 62 = some (.iload 7) by decide +kernel) rfl).trans <|
  (l_iald (show gPG 229 64 = some (.iaload) by decide +kernel) ).trans <| bd_cg fun x10 hx10 =>
  (l_aload_n (show gPG 229 65 = some (.aload_n 0) by decide +kernel) rfl jr_ref).trans <|
  (l_gR (show gPG 229 66 = some (.getfield 23) by decide +kernel) (kd := 13) (sl := 3) (tc := 1) (fin := 1) (z := 0) (by decide +kernel) (by decide +kernel) (by decide +kernel)).trans <| bd_cg fun w11 hw11 =>
  (l_iload_n (show gPG 229 69 = some (.iload_n 3) by decide +kernel) rfl).trans <|
  (l_aald (show gPG 229 70 = some (.aaload) by decide +kernel) ).trans <| bd_cg fun w12 hw12 =>
  (l_iload (show gPG 229 71 = some (.iload 8) by decide +kernel) rfl).trans <|
  (l_iald (show gPG 229 73 = some (.iaload) by decide +kernel) ).trans <| bd_cg fun x13 hx13 =>
  (l_cmp (show gPG 229 74 = some (.if_icmp .ne 7) by decide +kernel) (t := 81) (by decide +kernel)).trans <| jm_ne.trans <| ite_cg (
  (l_iconst (show gPG 229 77 = some (.iconst 1) by decide +kernel) (c := 1) (by decide +kernel)).trans <|
  l_goto (show gPG 229 78 = some (.goto 28) by decide +kernel) (t := 106) (by decide +kernel)) (
  (l_iconst (show gPG 229 81 = some (.iconst 0) by decide +kernel) (c := 0) (by decide +kernel)).trans <|
  l_goto (show gPG 229 82 = some (.goto 24) by decide +kernel) (t := 106) (by decide +kernel))) (
  (l_aload_n (show gPG 229 85 = some (.aload_n 0) by decide +kernel) rfl jr_ref).trans <|
  (l_gR (show gPG 229 86 = some (.getfield 31) by decide +kernel) (kd := 13) (sl := 5) (tc := 1) (fin := 1) (z := 0) (by decide +kernel) (by decide +kernel) (by decide +kernel)).trans <| bd_cg fun w1 hw1 =>
  (l_iload_n (show gPG 229 89 = some (.iload_n 1) by decide +kernel) rfl).trans <|
  (l_aald (show gPG 229 90 = some (.aaload) by decide +kernel) ).trans <| bd_cg fun w2 hw2 =>
  (l_iload (show gPG 229 91 = some (.iload 7) by decide +kernel) rfl).trans <|
  (l_aald (show gPG 229 93 = some (.aaload) by decide +kernel) ).trans <| bd_cg fun w3 hw3 =>
  (l_aload_n (show gPG 229 94 = some (.aload_n 0) by decide +kernel) rfl jr_ref).trans <|
  (l_gR (show gPG 229 95 = some (.getfield 31) by decide +kernel) (kd := 13) (sl := 5) (tc := 1) (fin := 1) (z := 0) (by decide +kernel) (by decide +kernel) (by decide +kernel)).trans <| bd_cg fun w4 hw4 =>
  (l_iload_n (show gPG 229 98 = some (.iload_n 3) by decide +kernel) rfl).trans <|
  (l_aald (show gPG 229 99 = some (.aaload) by decide +kernel) ).trans <| bd_cg fun w5 hw5 =>
  (l_iload (show gPG 229 100 = some (.iload 8) by decide +kernel) rfl).trans <|
  (l_aald (show gPG 229 102 = some (.aaload) by decide +kernel) ).trans <| bd_cg fun w6 hw6 =>
  l_callS (u := 2) (as := [w3, w6]) (show gPG 229 103 = some (jinvI 2 411) by decide +kernel) (by decide) (cc := 231) (na := 2) (q4 := 0) (z := 12) (rest := []) (by decide +kernel) (by decide +kernel)  rfl (show (2 : Nat) ≤ 2 by decide) rfl cs0 (by decide +kernel) (cav (jr_aR hw6) (cav (jr_aR hw3) ca0)) (fun e => absurd e (by decide))))) (
  (l_iconst (show gPG 229 24 = some (.iconst 0) by decide +kernel) (c := 0) (by decide +kernel)).trans <|
  l_iretK (show gPG 229 25 = some (.ireturn) by decide +kernel) (by decide +kernel))
theorem b229_106 (d : Nat) (μ : jM) (u0 : Value) (u1 : Value) (u2 : Value) (u3 : Value) (u4 : Value) (u5 : Value) (u6 : Value) (u7 : Value) (u8 : Value) (s0 : Int32) : jR d 229 106 [u0, u1, u2, u3, u4, u5, u6, u7, u8] [.int s0] μ = (if jrf 4 s0 = true then some (some (.int s0), μ) else none) :=
  l_iret (show gPG 229 106 = some (.ireturn) by decide +kernel) (rc := 4) (by decide +kernel)
-- Ref.kindAt
theorem b230_0 (d : Nat) (μ : jM) (a : Nat) (i1 : Int32) (i2 : Int32) (i3 : Int32) : jR d 230 0 [.ref a, .int i1, .int i2, .int i3] [] μ = (if i2 = (-1) then jR d 230 21 [.ref a, .int i1, .int i2, .int i3] [.int 0] μ else (jgR μ 13 2 (.ref a)).bind fun w1 => (jaR μ w1 i1).bind fun w2 => (jaI μ w2 ((3 * i2) + i3)).bind fun x3 => jR d 230 21 [.ref a, .int i1, .int i2, .int i3] [.int x3] μ) :=
  (l_iload_n (show gPG 230 0 = some (.iload_n 2) by decide +kernel) rfl).trans <|
  (l_iconst (show gPG 230 1 = some (.iconst (-1)) by decide +kernel) (c := (-1)) (by decide +kernel)).trans <|
  (l_cmp (show gPG 230 2 = some (.if_icmp .ne 7) by decide +kernel) (t := 9) (by decide +kernel)).trans <| jm_ne.trans <| ite_cg (
  (l_iconst (show gPG 230 5 = some (.iconst 0) by decide +kernel) (c := 0) (by decide +kernel)).trans <|
  l_goto (show gPG 230 6 = some (.goto 15) by decide +kernel) (t := 21) (by decide +kernel)) (
  (l_aload_n (show gPG 230 9 = some (.aload_n 0) by decide +kernel) rfl jr_ref).trans <|
  (l_gR (show gPG 230 10 = some (.getfield 20) by decide +kernel) (kd := 13) (sl := 2) (tc := 1) (fin := 1) (z := 0) (by decide +kernel) (by decide +kernel) (by decide +kernel)).trans <| bd_cg fun w1 hw1 =>
  (l_iload_n (show gPG 230 13 = some (.iload_n 1) by decide +kernel) rfl).trans <|
  (l_aald (show gPG 230 14 = some (.aaload) by decide +kernel) ).trans <| bd_cg fun w2 hw2 =>
  (l_iconst (show gPG 230 15 = some (.iconst 3) by decide +kernel) (c := 3) (by decide +kernel)).trans <|
  (l_iload_n (show gPG 230 16 = some (.iload_n 2) by decide +kernel) rfl).trans <|
  (l_imul (show gPG 230 17 = some (.imul) by decide +kernel) ).trans <|
  (l_iload_n (show gPG 230 18 = some (.iload_n 3) by decide +kernel) rfl).trans <|
  (l_iadd (show gPG 230 19 = some (.iadd) by decide +kernel) ).trans <|
  (l_iald (show gPG 230 20 = some (.iaload) by decide +kernel) ).trans <| bd_cg fun x3 hx3 =>
  rfl)
theorem b230_21 (d : Nat) (μ : jM) (u0 : Value) (u1 : Value) (u2 : Value) (u3 : Value) (s0 : Int32) : jR d 230 21 [u0, u1, u2, u3] [.int s0] μ = some (some (.int s0), μ) :=
  l_iret1 (show gPG 230 21 = some (.ireturn) by decide +kernel) (by decide +kernel)
-- Ref.areSame
theorem b231_0 (d : Nat) (μ : jM) (r0 : Value) (r1 : Value) (h0 : jisref r0 = true) (h1 : jisref r1 = true) : jR d 231 0 [r0, r1, .retAddr 0] [] μ = (jal μ r0).bind fun x1 => (jal μ r1).bind fun x2 => (if x1 = x2 then jR d 231 11 [r0, r1, .int 0] [] μ else some (some (.int 0), μ)) :=
  (l_aload_n (show gPG 231 0 = some (.aload_n 0) by decide +kernel) rfl h0).trans <|
  (l_alen (show gPG 231 1 = some (.arraylength) by decide +kernel) ).trans <| bd_cg fun x1 hx1 =>
  (l_aload_n (show gPG 231 2 = some (.aload_n 1) by decide +kernel) rfl h1).trans <|
  (l_alen (show gPG 231 3 = some (.arraylength) by decide +kernel) ).trans <| bd_cg fun x2 hx2 =>
  (l_cmp (show gPG 231 4 = some (.if_icmp .eq 5) by decide +kernel) (t := 9) (by decide +kernel)).trans <| jm_eq.trans <| ite_cg (
  (l_iconst (show gPG 231 9 = some (.iconst 0) by decide +kernel) (c := 0) (by decide +kernel)).trans <|
  l_istore_n (show gPG 231 10 = some (.istore_n 2) by decide +kernel) (ls := [r0, r1, .retAddr 0]) (show (2 : Nat) < 3 by decide) (show _ = ([r0, r1, .int 0] : List Value) from rfl)) (
  (l_iconst (show gPG 231 7 = some (.iconst 0) by decide +kernel) (c := 0) (by decide +kernel)).trans <|
  l_iretK (show gPG 231 8 = some (.ireturn) by decide +kernel) (by decide +kernel))
theorem b231_11 (d : Nat) (μ : jM) (r0 : Value) (r1 : Value) (i2 : Int32) (h0 : jisref r0 = true) (h1 : jisref r1 = true) : jR d 231 11 [r0, r1, .int i2] [] μ = (jal μ r0).bind fun x1 => (if i2 < x1 then (jaI μ r0 i2).bind fun x2 => (jaI μ r1 i2).bind fun x3 => (if x2 = x3 then jR d 231 11 [r0, r1, .int (i2 + 1)] [] μ else some (some (.int 0), μ)) else some (some (.int 1), μ)) :=
  (l_iload_n (show gPG 231 11 = some (.iload_n 2) by decide +kernel) rfl).trans <|
  (l_aload_n (show gPG 231 12 = some (.aload_n 0) by decide +kernel) rfl h0).trans <|
  (l_alen (show gPG 231 13 = some (.arraylength) by decide +kernel) ).trans <| bd_cg fun x1 hx1 =>
  (l_cmp (show gPG 231 14 = some (.if_icmp .ge 20) by decide +kernel) (t := 34) (by decide +kernel)).trans <| jm_ge.trans <| ite_cg (
  (l_aload_n (show gPG 231 17 = some (.aload_n 0) by decide +kernel) rfl h0).trans <|
  (l_iload_n (show gPG 231 18 = some (.iload_n 2) by decide +kernel) rfl).trans <|
  (l_iald (show gPG 231 19 = some (.iaload) by decide +kernel) ).trans <| bd_cg fun x2 hx2 =>
  (l_aload_n (show gPG 231 20 = some (.aload_n 1) by decide +kernel) rfl h1).trans <|
  (l_iload_n (show gPG 231 21 = some (.iload_n 2) by decide +kernel) rfl).trans <|
  (l_iald (show gPG 231 22 = some (.iaload) by decide +kernel) ).trans <| bd_cg fun x3 hx3 =>
  (l_cmp (show gPG 231 23 = some (.if_icmp .eq 5) by decide +kernel) (t := 28) (by decide +kernel)).trans <| jm_eq.trans <| ite_cg (
  (l_iinc (show gPG 231 28 = some (.iinc 2 1) by decide +kernel) (c := 1) (by decide +kernel) rfl (show _ = ([r0, r1, .int (i2 + 1)] : List Value) from rfl)).trans <|
  l_goto (show gPG 231 31 = some (.goto (-20)) by decide +kernel) (t := 11) (by decide +kernel)) (
  (l_iconst (show gPG 231 26 = some (.iconst 0) by decide +kernel) (c := 0) (by decide +kernel)).trans <|
  l_iretK (show gPG 231 27 = some (.ireturn) by decide +kernel) (by decide +kernel))) (
  (l_iconst (show gPG 231 34 = some (.iconst 1) by decide +kernel) (c := 1) (by decide +kernel)).trans <|
  l_iretK (show gPG 231 35 = some (.ireturn) by decide +kernel) (by decide +kernel))
-- Ref.noteAt
theorem b232_0 (d : Nat) (μ : jM) (a : Nat) (i1 : Int32) (i2 : Int32) (i3 : Int32) : jR d 232 0 [.ref a, .int i1, .int i2, .int i3] [] μ = (if i2 = (-1) then jR d 232 21 [.ref a, .int i1, .int i2, .int i3] [.int 0] μ else (jgR μ 13 4 (.ref a)).bind fun w1 => (jaR μ w1 i1).bind fun w2 => (jaI μ w2 ((3 * i2) + i3)).bind fun x3 => jR d 232 21 [.ref a, .int i1, .int i2, .int i3] [.int x3] μ) :=
  (l_iload_n (show gPG 232 0 = some (.iload_n 2) by decide +kernel) rfl).trans <|
  (l_iconst (show gPG 232 1 = some (.iconst (-1)) by decide +kernel) (c := (-1)) (by decide +kernel)).trans <|
  (l_cmp (show gPG 232 2 = some (.if_icmp .ne 7) by decide +kernel) (t := 9) (by decide +kernel)).trans <| jm_ne.trans <| ite_cg (
  (l_iconst (show gPG 232 5 = some (.iconst 0) by decide +kernel) (c := 0) (by decide +kernel)).trans <|
  l_goto (show gPG 232 6 = some (.goto 15) by decide +kernel) (t := 21) (by decide +kernel)) (
  (l_aload_n (show gPG 232 9 = some (.aload_n 0) by decide +kernel) rfl jr_ref).trans <|
  (l_gR (show gPG 232 10 = some (.getfield 26) by decide +kernel) (kd := 13) (sl := 4) (tc := 1) (fin := 1) (z := 0) (by decide +kernel) (by decide +kernel) (by decide +kernel)).trans <| bd_cg fun w1 hw1 =>
  (l_iload_n (show gPG 232 13 = some (.iload_n 1) by decide +kernel) rfl).trans <|
  (l_aald (show gPG 232 14 = some (.aaload) by decide +kernel) ).trans <| bd_cg fun w2 hw2 =>
  (l_iconst (show gPG 232 15 = some (.iconst 3) by decide +kernel) (c := 3) (by decide +kernel)).trans <|
  (l_iload_n (show gPG 232 16 = some (.iload_n 2) by decide +kernel) rfl).trans <|
  (l_imul (show gPG 232 17 = some (.imul) by decide +kernel) ).trans <|
  (l_iload_n (show gPG 232 18 = some (.iload_n 3) by decide +kernel) rfl).trans <|
  (l_iadd (show gPG 232 19 = some (.iadd) by decide +kernel) ).trans <|
  (l_iald (show gPG 232 20 = some (.iaload) by decide +kernel) ).trans <| bd_cg fun x3 hx3 =>
  rfl)
theorem b232_21 (d : Nat) (μ : jM) (u0 : Value) (u1 : Value) (u2 : Value) (u3 : Value) (s0 : Int32) : jR d 232 21 [u0, u1, u2, u3] [.int s0] μ = some (some (.int s0), μ) :=
  l_iret1 (show gPG 232 21 = some (.ireturn) by decide +kernel) (by decide +kernel)
-- Ref.behind
theorem b233_0 (d : Nat) (μ : jM) (a : Nat) (i1 : Int32) : jR d 233 0 [.ref a, .int i1, .retAddr 0, .retAddr 0] [] μ = jR d 233 4 [.ref a, .int i1, .int (i1 - 1), .retAddr 0] [] μ :=
  (l_iload_n (show gPG 233 0 = some (.iload_n 1) by decide +kernel) rfl).trans <|
  (l_iconst (show gPG 233 1 = some (.iconst 1) by decide +kernel) (c := 1) (by decide +kernel)).trans <|
  (l_isub (show gPG 233 2 = some (.isub) by decide +kernel) ).trans <|
  l_istore_n (show gPG 233 3 = some (.istore_n 2) by decide +kernel) (ls := [.ref a, .int i1, .retAddr 0, .retAddr 0]) (show (2 : Nat) < 4 by decide) (show _ = ([.ref a, .int i1, .int (i1 - 1), .retAddr 0] : List Value) from rfl)
theorem b233_4 (d : Nat) (μ : jM) (a : Nat) (u1 : Value) (i2 : Int32) (u3 : Value) : jR (d + 1) 233 4 [.ref a, u1, .int i2, u3] [] μ = (if i2 < 0 then some (some (.int 0), μ) else (jgR μ 13 1 (.ref a)).bind fun w1 => (jaR μ w1 2).bind fun w2 => (jaI μ w2 i2).bind fun x3 => (if jrecv μ 13 (.ref a) = true then (jC d 194 [.ref a, .int 3, .int x3] μ).bind fun p4 => jR (d + 1) 233 21 [.ref a, u1, .int i2, u3] (p4.1.toList ++ []) p4.2 else none)) :=
  (l_iload_n (show gPG 233 4 = some (.iload_n 2) by decide +kernel) rfl).trans <|
  (l_cmp0 (show gPG 233 5 = some (.ifCond .lt 32) by decide +kernel) (t := 37) (by decide +kernel)).trans <| jm_lt.trans <| ite_cg (
  (l_iconst (show gPG 233 37 = some (.iconst 0) by decide +kernel) (c := 0) (by decide +kernel)).trans <|
  l_iret1 (show gPG 233 38 = some (.ireturn) by decide +kernel) (by decide +kernel)) (
  (l_aload_n (show gPG 233 8 = some (.aload_n 0) by decide +kernel) rfl jr_ref).trans <|
  (l_iconst (show gPG 233 9 = some (.iconst 3) by decide +kernel) (c := 3) (by decide +kernel)).trans <|
  (l_aload_n (show gPG 233 10 = some (.aload_n 0) by decide +kernel) rfl jr_ref).trans <|
  (l_gR (show gPG 233 11 = some (.getfield 17) by decide +kernel) (kd := 13) (sl := 1) (tc := 1) (fin := 1) (z := 0) (by decide +kernel) (by decide +kernel) (by decide +kernel)).trans <| bd_cg fun w1 hw1 =>
  (l_iconst (show gPG 233 14 = some (.iconst 2) by decide +kernel) (c := 2) (by decide +kernel)).trans <|
  (l_aald (show gPG 233 15 = some (.aaload) by decide +kernel) ).trans <| bd_cg fun w2 hw2 =>
  (l_iload_n (show gPG 233 16 = some (.iload_n 2) by decide +kernel) rfl).trans <|
  (l_iald (show gPG 233 17 = some (.iaload) by decide +kernel) ).trans <| bd_cg fun x3 hx3 =>
  l_callV (u := 1) (v := .ref a) (as := [.int 3, .int x3]) (show gPG 233 18 = some (jinvI 1 301) by decide +kernel) (by decide) (cc := 194) (na := 3) (kd := 13) (q4 := 0) (z := 10) (rest := []) (by decide +kernel) (by decide +kernel)  rfl (show (3 : Nat) ≤ 3 by decide) rfl cs0 (by decide +kernel) (cai (cai (cav jr_ref ca0))))
theorem b233_21 (d : Nat) (μ : jM) (a : Nat) (u1 : Value) (i2 : Int32) (u3 : Value) (s0 : Int32) : jR d 233 21 [.ref a, u1, .int i2, u3] [.int s0] μ = (if s0 = (-1) then jR d 233 4 [.ref a, u1, .int (i2 + (-1)), .int s0] [] μ else some (some (.int (s0 + 1)), μ)) :=
  (l_istore_n (show gPG 233 21 = some (.istore_n 3) by decide +kernel) (ls := [.ref a, u1, .int i2, u3]) (show (3 : Nat) < 4 by decide) (show _ = ([.ref a, u1, .int i2, .int s0] : List Value) from rfl)).trans <|
  (l_iload_n (show gPG 233 22 = some (.iload_n 3) by decide +kernel) rfl).trans <|
  (l_iconst (show gPG 233 23 = some (.iconst (-1)) by decide +kernel) (c := (-1)) (by decide +kernel)).trans <|
  (l_cmp (show gPG 233 24 = some (.if_icmp .eq 7) by decide +kernel) (t := 31) (by decide +kernel)).trans <| jm_eq.trans <| ite_cg (
  (l_iinc (show gPG 233 31 = some (.iinc 2 (-1)) by decide +kernel) (c := (-1)) (by decide +kernel) rfl (show _ = ([.ref a, u1, .int (i2 + (-1)), .int s0] : List Value) from rfl)).trans <|
  l_goto (show gPG 233 34 = some (.goto (-30)) by decide +kernel) (t := 4) (by decide +kernel)) (
  (l_iload_n (show gPG 233 27 = some (.iload_n 3) by decide +kernel) rfl).trans <|
  (l_iconst (show gPG 233 28 = some (.iconst 1) by decide +kernel) (c := 1) (by decide +kernel)).trans <|
  (l_iadd (show gPG 233 29 = some (.iadd) by decide +kernel) ).trans <|
  l_iret1 (show gPG 233 30 = some (.ireturn) by decide +kernel) (by decide +kernel))
-- Ref.mergeRow
theorem b234_0 (d : Nat) (μ : jM) (a : Nat) (i1 : Int32) : jR (d + 1) 234 0 [.ref a, .int i1, .retAddr 0, .retAddr 0, .retAddr 0, .retAddr 0, .retAddr 0] [] μ = (if jrecv μ 13 (.ref a) = true then (jC d 194 [.ref a, .int 3, .int i1] μ).bind fun p1 => jR (d + 1) 234 6 [.ref a, .int i1, .retAddr 0, .retAddr 0, .retAddr 0, .retAddr 0, .retAddr 0] (p1.1.toList ++ []) p1.2 else none) :=
  (l_aload_n (show gPG 234 0 = some (.aload_n 0) by decide +kernel) rfl jr_ref).trans <|
  (l_iconst (show gPG 234 1 = some (.iconst 3) by decide +kernel) (c := 3) (by decide +kernel)).trans <|
  (l_iload_n (show gPG 234 2 = some (.iload_n 1) by decide +kernel) rfl).trans <|
  l_callV (u := 1) (v := .ref a) (as := [.int 3, .int i1]) (show gPG 234 3 = some (jinvI 1 301) by decide +kernel) (by decide) (cc := 194) (na := 3) (kd := 13) (q4 := 0) (z := 10) (rest := []) (by decide +kernel) (by decide +kernel)  rfl (show (3 : Nat) ≤ 3 by decide) rfl cs0 (by decide +kernel) (cai (cai (cav jr_ref ca0)))
theorem b234_6 (d : Nat) (μ : jM) (a : Nat) (i1 : Int32) (u2 : Value) (u3 : Value) (u4 : Value) (u5 : Value) (u6 : Value) (s0 : Int32) : jR (d + 1) 234 6 [.ref a, .int i1, u2, u3, u4, u5, u6] [.int s0] μ = (if jrecv μ 13 (.ref a) = true then (jC d 194 [.ref a, .int 0, .int i1] μ).bind fun p1 => jR (d + 1) 234 13 [.ref a, .int i1, .int s0, u3, u4, u5, u6] (p1.1.toList ++ []) p1.2 else none) :=
  (l_istore_n (show gPG 234 6 = some (.istore_n 2) by decide +kernel) (ls := [.ref a, .int i1, u2, u3, u4, u5, u6]) (show (2 : Nat) < 7 by decide) (show _ = ([.ref a, .int i1, .int s0, u3, u4, u5, u6] : List Value) from rfl)).trans <|
  (l_aload_n (show gPG 234 7 = some (.aload_n 0) by decide +kernel) rfl jr_ref).trans <|
  (l_iconst (show gPG 234 8 = some (.iconst 0) by decide +kernel) (c := 0) (by decide +kernel)).trans <|
  (l_iload_n (show gPG 234 9 = some (.iload_n 1) by decide +kernel) rfl).trans <|
  l_callV (u := 1) (v := .ref a) (as := [.int 0, .int i1]) (show gPG 234 10 = some (jinvI 1 301) by decide +kernel) (by decide) (cc := 194) (na := 3) (kd := 13) (q4 := 0) (z := 10) (rest := []) (by decide +kernel) (by decide +kernel)  rfl (show (3 : Nat) ≤ 3 by decide) rfl cs0 (by decide +kernel) (cai (cai (cav jr_ref ca0)))
theorem b234_13 (d : Nat) (μ : jM) (a : Nat) (i1 : Int32) (i2 : Int32) (u3 : Value) (u4 : Value) (u5 : Value) (u6 : Value) (s0 : Int32) : jR (d + 1) 234 13 [.ref a, .int i1, .int i2, u3, u4, u5, u6] [.int s0] μ = (if jrecv μ 13 (.ref a) = true then (jC d 194 [.ref a, .int 1, .int i1] μ).bind fun p1 => jR (d + 1) 234 20 [.ref a, .int i1, .int i2, .int s0, u4, u5, u6] (p1.1.toList ++ []) p1.2 else none) :=
  (l_istore_n (show gPG 234 13 = some (.istore_n 3) by decide +kernel) (ls := [.ref a, .int i1, .int i2, u3, u4, u5, u6]) (show (3 : Nat) < 7 by decide) (show _ = ([.ref a, .int i1, .int i2, .int s0, u4, u5, u6] : List Value) from rfl)).trans <|
  (l_aload_n (show gPG 234 14 = some (.aload_n 0) by decide +kernel) rfl jr_ref).trans <|
  (l_iconst (show gPG 234 15 = some (.iconst 1) by decide +kernel) (c := 1) (by decide +kernel)).trans <|
  (l_iload_n (show gPG 234 16 = some (.iload_n 1) by decide +kernel) rfl).trans <|
  l_callV (u := 1) (v := .ref a) (as := [.int 1, .int i1]) (show gPG 234 17 = some (jinvI 1 301) by decide +kernel) (by decide) (cc := 194) (na := 3) (kd := 13) (q4 := 0) (z := 10) (rest := []) (by decide +kernel) (by decide +kernel)  rfl (show (3 : Nat) ≤ 3 by decide) rfl cs0 (by decide +kernel) (cai (cai (cav jr_ref ca0)))
theorem b234_20 (d : Nat) (μ : jM) (a : Nat) (i1 : Int32) (i2 : Int32) (i3 : Int32) (u4 : Value) (u5 : Value) (u6 : Value) (s0 : Int32) : jR (d + 1) 234 20 [.ref a, .int i1, .int i2, .int i3, u4, u5, u6] [.int s0] μ = (if jrecv μ 13 (.ref a) = true then (jC d 194 [.ref a, .int 2, .int i1] μ).bind fun p1 => jR (d + 1) 234 28 [.ref a, .int i1, .int i2, .int i3, .int s0, u5, u6] (p1.1.toList ++ []) p1.2 else none) :=
  (l_istore (show gPG 234 20 = some (.istore 4) by decide +kernel) (ls := [.ref a, .int i1, .int i2, .int i3, u4, u5, u6]) (show (4 : Nat) < 7 by decide) (show _ = ([.ref a, .int i1, .int i2, .int i3, .int s0, u5, u6] : List Value) from rfl)).trans <|
  (l_aload_n (show gPG 234 22 = some (.aload_n 0) by decide +kernel) rfl jr_ref).trans <|
  (l_iconst (show gPG 234 23 = some (.iconst 2) by decide +kernel) (c := 2) (by decide +kernel)).trans <|
  (l_iload_n (show gPG 234 24 = some (.iload_n 1) by decide +kernel) rfl).trans <|
  l_callV (u := 1) (v := .ref a) (as := [.int 2, .int i1]) (show gPG 234 25 = some (jinvI 1 301) by decide +kernel) (by decide) (cc := 194) (na := 3) (kd := 13) (q4 := 0) (z := 10) (rest := []) (by decide +kernel) (by decide +kernel)  rfl (show (3 : Nat) ≤ 3 by decide) rfl cs0 (by decide +kernel) (cai (cai (cav jr_ref ca0)))
theorem b234_28 (d : Nat) (μ : jM) (a : Nat) (i1 : Int32) (i2 : Int32) (i3 : Int32) (i4 : Int32) (u5 : Value) (u6 : Value) (s0 : Int32) : jR d 234 28 [.ref a, .int i1, .int i2, .int i3, .int i4, u5, u6] [.int s0] μ = (if i4 = (-1) then jR d 234 76 [.ref a, .int i1, .int i2, .int i3, .int i4, .int s0, u6] [] μ else (if s0 = (-1) then jR d 234 76 [.ref a, .int i1, .int i2, .int i3, .int i4, .int s0, u6] [] μ else jR d 234 45 [.ref a, .int i1, .int i2, .int i3, .int i4, .int s0, .int 0] [] μ)) :=
  (l_istore (show gPG 234 28 = some (.istore 5) by decide +kernel) (ls := [.ref a, .int i1, .int i2, .int i3, .int i4, u5, u6]) (show (5 : Nat) < 7 by decide) (show _ = ([.ref a, .int i1, .int i2, .int i3, .int i4, .int s0, u6] : List Value) from rfl)).trans <|
  (l_iload (show gPG 234 30 = some (.iload 4) by decide +kernel) rfl).trans <|
  (l_iconst (show gPG 234 32 = some (.iconst (-1)) by decide +kernel) (c := (-1)) (by decide +kernel)).trans <|
  (l_cmp (show gPG 234 33 = some (.if_icmp .eq 43) by decide +kernel) (t := 76) (by decide +kernel)).trans <| jm_eq.trans <| ite_cg (
  rfl) (
  (l_iload (show gPG 234 36 = some (.iload 5) by decide +kernel) rfl).trans <|
  (l_iconst (show gPG 234 38 = some (.iconst (-1)) by decide +kernel) (c := (-1)) (by decide +kernel)).trans <|
  (l_cmp (show gPG 234 39 = some (.if_icmp .eq 37) by decide +kernel) (t := 76) (by decide +kernel)).trans <| jm_eq.trans <| ite_cg (
  rfl) (
  (l_iconst (show gPG 234 42 = some (.iconst 0) by decide +kernel) (c := 0) (by decide +kernel)).trans <|
  l_istore (show gPG 234 43 = some (.istore 6) by decide +kernel) (ls := [.ref a, .int i1, .int i2, .int i3, .int i4, .int s0, u6]) (show (6 : Nat) < 7 by decide) (show _ = ([.ref a, .int i1, .int i2, .int i3, .int i4, .int s0, .int 0] : List Value) from rfl)))
theorem b234_45 (d : Nat) (μ : jM) (a : Nat) (i1 : Int32) (i2 : Int32) (i3 : Int32) (i4 : Int32) (i5 : Int32) (i6 : Int32) : jR (d + 1) 234 45 [.ref a, .int i1, .int i2, .int i3, .int i4, .int i5, .int i6] [] μ = (if i6 < 3 then (if jrecv μ 13 (.ref a) = true then (jC d 235 [.ref a, .int i1, .int i3, .int i4, .int i5, .int i6, .int ((3 * i2) + i6)] μ).bind fun p1 => jR (d + 1) 234 69 [.ref a, .int i1, .int i2, .int i3, .int i4, .int i5, .int i6] (p1.1.toList ++ []) p1.2 else none) else some (none, μ)) :=
  (l_iload (show gPG 234 45 = some (.iload 6) by decide +kernel) rfl).trans <|
  (l_iconst (show gPG 234 47 = some (.iconst 3) by decide +kernel) (c := 3) (by decide +kernel)).trans <|
  (l_cmp (show gPG 234 48 = some (.if_icmp .ge 27) by decide +kernel) (t := 75) (by decide +kernel)).trans <| jm_ge.trans <| ite_cg (
  (l_aload_n (show gPG 234 51 = some (.aload_n 0) by decide +kernel) rfl jr_ref).trans <|
  (l_iload_n (show gPG 234 52 = some (.iload_n 1) by decide +kernel) rfl).trans <|
  (l_iload_n (show gPG 234 53 = some (.iload_n 3) by decide +kernel) rfl).trans <|
  (l_iload (show gPG 234 54 = some (.iload 4) by decide +kernel) rfl).trans <|
  (l_iload (show gPG 234 56 = some (.iload 5) by decide +kernel) rfl).trans <|
  (l_iload (show gPG 234 58 = some (.iload 6) by decide +kernel) rfl).trans <|
  (l_iconst (show gPG 234 60 = some (.iconst 3) by decide +kernel) (c := 3) (by decide +kernel)).trans <|
  (l_iload_n (show gPG 234 61 = some (.iload_n 2) by decide +kernel) rfl).trans <|
  (l_imul (show gPG 234 62 = some (.imul) by decide +kernel) ).trans <|
  (l_iload (show gPG 234 63 = some (.iload 6) by decide +kernel) rfl).trans <|
  (l_iadd (show gPG 234 65 = some (.iadd) by decide +kernel) ).trans <|
  l_callV (u := 1) (v := .ref a) (as := [.int i1, .int i3, .int i4, .int i5, .int i6, .int ((3 * i2) + i6)]) (show gPG 234 66 = some (jinvI 1 448) by decide +kernel) (by decide) (cc := 235) (na := 7) (kd := 13) (q4 := 0) (z := 10) (rest := []) (by decide +kernel) (by decide +kernel)  rfl (show (7 : Nat) ≤ 7 by decide) rfl cs0 (by decide +kernel) (cai (cai (cai (cai (cai (cai (cav jr_ref ca0)))))))) (
  l_ret (show gPG 234 75 = some (.return_) by decide +kernel) (by decide +kernel))
theorem b234_69 (d : Nat) (μ : jM) (a : Nat) (i1 : Int32) (i2 : Int32) (i3 : Int32) (i4 : Int32) (i5 : Int32) (i6 : Int32) : jR d 234 69 [.ref a, .int i1, .int i2, .int i3, .int i4, .int i5, .int i6] [] μ = jR d 234 45 [.ref a, .int i1, .int i2, .int i3, .int i4, .int i5, .int (i6 + 1)] [] μ :=
  (l_iinc (show gPG 234 69 = some (.iinc 6 1) by decide +kernel) (c := 1) (by decide +kernel) rfl (show _ = ([.ref a, .int i1, .int i2, .int i3, .int i4, .int i5, .int (i6 + 1)] : List Value) from rfl)).trans <|
  l_goto (show gPG 234 72 = some (.goto (-27)) by decide +kernel) (t := 45) (by decide +kernel)
theorem b234_76 (d : Nat) (μ : jM) (a : Nat) (i1 : Int32) (i2 : Int32) (i3 : Int32) (i4 : Int32) (i5 : Int32) (u6 : Value) : jR d 234 76 [.ref a, .int i1, .int i2, .int i3, .int i4, .int i5, u6] [] μ = (if i4 = (-1) then jR d 234 88 [.ref a, .int i1, .int i2, .int i3, .int i4, .int i5, u6] [.int 2, .ref a] μ else jR d 234 88 [.ref a, .int i1, .int i2, .int i3, .int i4, .int i5, u6] [.int 1, .ref a] μ) :=
  (l_aload_n (show gPG 234 76 = some (.aload_n 0) by decide +kernel) rfl jr_ref).trans <|
  (l_iload (show gPG 234 77 = some (.iload 4) by decide +kernel) rfl).trans <|
  (l_iconst (show gPG 234 79 = some (.iconst (-1)) by decide +kernel) (c := (-1)) (by decide +kernel)).trans <|
  (l_cmp (show gPG 234 80 = some (.if_icmp .eq 7) by decide +kernel) (t := 87) (by decide +kernel)).trans <| jm_eq.trans <| ite_cg (
  l_iconst (show gPG 234 87 = some (.iconst 2) by decide +kernel) (c := 2) (by decide +kernel)) (
  (l_iconst (show gPG 234 83 = some (.iconst 1) by decide +kernel) (c := 1) (by decide +kernel)).trans <|
  l_goto (show gPG 234 84 = some (.goto 4) by decide +kernel) (t := 88) (by decide +kernel))
theorem b234_88 (d : Nat) (μ : jM) (a : Nat) (i1 : Int32) (i2 : Int32) (i3 : Int32) (i4 : Int32) (i5 : Int32) (u6 : Value) (s0 : Value) (s1 : Int32) (hs0 : jisref s0 = true) : jR d 234 88 [.ref a, .int i1, .int i2, .int i3, .int i4, .int i5, u6] [.int s1, s0] μ = (if i4 = (-1) then jR d 234 101 [.ref a, .int i1, .int i2, .int i3, .int i4, .int i5, u6] [.int i5, .int s1, s0] μ else jR d 234 101 [.ref a, .int i1, .int i2, .int i3, .int i4, .int i5, u6] [.int i4, .int s1, s0] μ) :=
  (l_iload (show gPG 234 88 = some (.iload 4) by decide +kernel) rfl).trans <|
  (l_iconst (show gPG 234 90 = some (.iconst (-1)) by decide +kernel) (c := (-1)) (by decide +kernel)).trans <|
  (l_cmp (show gPG 234 91 = some (.if_icmp .eq 8) by decide +kernel) (t := 99) (by decide +kernel)).trans <| jm_eq.trans <| ite_cg (
  l_iload (show gPG 234 99 = some (.iload 5) by decide +kernel) rfl) (
  (l_iload (show gPG 234 94 = some (.iload 4) by decide +kernel) rfl).trans <|
  l_goto (show gPG 234 96 = some (.goto 5) by decide +kernel) (t := 101) (by decide +kernel))
theorem b234_101 (d : Nat) (μ : jM) (a : Nat) (i1 : Int32) (i2 : Int32) (i3 : Int32) (u4 : Value) (u5 : Value) (u6 : Value) (s0 : Value) (s1 : Int32) (s2 : Int32) (hs0 : jisref s0 = true) : jR (d + 1) 234 101 [.ref a, .int i1, .int i2, .int i3, u4, u5, u6] [.int s2, .int s1, s0] μ = (if jrecv μ 13 s0 = true then (jC d 196 [s0, .int s1, .int s2, .int 3, .int i2] μ).bind fun p1 => jR (d + 1) 234 106 [.ref a, .int i1, .int i2, .int i3, u4, u5, u6] (p1.1.toList ++ []) p1.2 else none) :=
  (l_iconst (show gPG 234 101 = some (.iconst 3) by decide +kernel) (c := 3) (by decide +kernel)).trans <|
  (l_iload_n (show gPG 234 102 = some (.iload_n 2) by decide +kernel) rfl).trans <|
  l_callV (u := 1) (v := s0) (as := [.int s1, .int s2, .int 3, .int i2]) (show gPG 234 103 = some (jinvI 1 140) by decide +kernel) (by decide) (cc := 196) (na := 5) (kd := 13) (q4 := 0) (z := 10) (rest := []) (by decide +kernel) (by decide +kernel)  rfl (show (5 : Nat) ≤ 5 by decide) rfl cs0 (by decide +kernel) (cai (cai (cai (cai (cav hs0 ca0)))))
theorem b234_106 (d : Nat) (μ : jM) (a : Nat) (i1 : Int32) (u2 : Value) (i3 : Int32) (u4 : Value) (u5 : Value) (u6 : Value) : jR (d + 1) 234 106 [.ref a, .int i1, u2, .int i3, u4, u5, u6] [] μ = (if i3 = (-1) then jR (d + 1) 234 118 [.ref a, .int i1, u2, .int i3, u4, u5, u6] [] μ else (if jrecv μ 13 (.ref a) = true then (jC d 240 [.ref a, .int 2, .int i1, .int (-1)] μ).bind fun p1 => jR (d + 1) 234 118 [.ref a, .int i1, u2, .int i3, u4, u5, u6] (p1.1.toList ++ []) p1.2 else none)) :=
  (l_iload_n (show gPG 234 106 = some (.iload_n 3) by decide +kernel) rfl).trans <|
  (l_iconst (show gPG 234 107 = some (.iconst (-1)) by decide +kernel) (c := (-1)) (by decide +kernel)).trans <|
  (l_cmp (show gPG 234 108 = some (.if_icmp .eq 10) by decide +kernel) (t := 118) (by decide +kernel)).trans <| jm_eq.trans <| ite_cg (
  rfl) (
  (l_aload_n (show gPG 234 111 = some (.aload_n 0) by decide +kernel) rfl jr_ref).trans <|
  (l_iconst (show gPG 234 112 = some (.iconst 2) by decide +kernel) (c := 2) (by decide +kernel)).trans <|
  (l_iload_n (show gPG 234 113 = some (.iload_n 1) by decide +kernel) rfl).trans <|
  (l_iconst (show gPG 234 114 = some (.iconst (-1)) by decide +kernel) (c := (-1)) (by decide +kernel)).trans <|
  l_callV (u := 1) (v := .ref a) (as := [.int 2, .int i1, .int (-1)]) (show gPG 234 115 = some (jinvI 1 436) by decide +kernel) (by decide) (cc := 240) (na := 4) (kd := 13) (q4 := 0) (z := 10) (rest := []) (by decide +kernel) (by decide +kernel)  rfl (show (4 : Nat) ≤ 4 by decide) rfl cs0 (by decide +kernel) (cai (cai (cai (cav jr_ref ca0)))))
theorem b234_118 (d : Nat) (μ : jM) (u0 : Value) (u1 : Value) (u2 : Value) (u3 : Value) (u4 : Value) (u5 : Value) (u6 : Value) : jR d 234 118 [u0, u1, u2, u3, u4, u5, u6] [] μ = some (none, μ) :=
  l_ret (show gPG 234 118 = some (.return_) by decide +kernel) (by decide +kernel)
-- Ref.mergeCell
theorem b235_0 (d : Nat) (μ : jM) (a : Nat) (i1 : Int32) (i2 : Int32) (i3 : Int32) (i4 : Int32) (i5 : Int32) (i6 : Int32) : jR (d + 1) 235 0 [.ref a, .int i1, .int i2, .int i3, .int i4, .int i5, .int i6, .retAddr 0, .retAddr 0, .retAddr 0, .retAddr 0, .retAddr 0] [] μ = (if jrecv μ 13 (.ref a) = true then (jC d 229 [.ref a, .int 1, .int i3, .int 2, .int i4, .int i5] μ).bind fun p1 => jR (d + 1) 235 11 [.ref a, .int i1, .int i2, .int i3, .int i4, .int i5, .int i6, .retAddr 0, .retAddr 0, .retAddr 0, .retAddr 0, .retAddr 0] (p1.1.toList ++ []) p1.2 else none) :=
  (l_aload_n (show gPG 235 0 = some (.aload_n 0) by decide +kernel) rfl jr_ref).trans <|
  (l_iconst (show gPG 235 1 = some (.iconst 1) by decide +kernel) (c := 1) (by decide +kernel)).trans <|
  (l_iload_n (show gPG 235 2 = some (.iload_n 3) by decide +kernel) rfl).trans <|
  (l_iconst (show gPG 235 3 = some (.iconst 2) by decide +kernel) (c := 2) (by decide +kernel)).trans <|
  (l_iload (show gPG 235 4 = some (.iload 4) by decide +kernel) rfl).trans <|
  (l_iload (show gPG 235 6 = some (.iload 5) by decide +kernel) rfl).trans <|
  l_callV (u := 1) (v := .ref a) (as := [.int 1, .int i3, .int 2, .int i4, .int i5]) (show gPG 235 8 = some (jinvI 1 415) by decide +kernel) (by decide) (cc := 229) (na := 6) (kd := 13) (q4 := 0) (z := 10) (rest := []) (by decide +kernel) (by decide +kernel)  rfl (show (6 : Nat) ≤ 6 by decide) rfl cs0 (by decide +kernel) (cai (cai (cai (cai (cai (cav jr_ref ca0))))))
theorem b235_11 (d : Nat) (μ : jM) (a : Nat) (i1 : Int32) (i2 : Int32) (i3 : Int32) (i4 : Int32) (i5 : Int32) (i6 : Int32) (u7 : Value) (u8 : Value) (u9 : Value) (u10 : Value) (u11 : Value) (s0 : Int32) : jR (d + 1) 235 11 [.ref a, .int i1, .int i2, .int i3, .int i4, .int i5, .int i6, u7, u8, u9, u10, u11] [.int s0] μ = (if s0 = 0 then (if jrecv μ 13 (.ref a) = true then (jC d 229 [.ref a, .int 2, .int i4, .int 0, .int i2, .int i5] μ).bind fun p1 => jR (d + 1) 235 25 [.ref a, .int i1, .int i2, .int i3, .int i4, .int i5, .int i6, u7, u8, u9, u10, u11] (p1.1.toList ++ []) p1.2 else none) else jR (d + 1) 235 28 [.ref a, .int i1, .int i2, .int i3, .int i4, .int i5, .int i6, u7, u8, u9, u10, u11] [] μ) :=
  (l_cmp0 (show gPG 235 11 = some (.ifCond .ne 17) by decide +kernel) (t := 28) (by decide +kernel)).trans <| jm_ne.trans <| ite_cg (
  (l_aload_n (show gPG 235 14 = some (.aload_n 0) by decide +kernel) rfl jr_ref).trans <|
  (l_iconst (show gPG 235 15 = some (.iconst 2) by decide +kernel) (c := 2) (by decide +kernel)).trans <|
  (l_iload (show gPG 235 16 = some (.iload 4) by decide +kernel) rfl).trans <|
  (l_iconst (show gPG 235 18 = some (.iconst 0) by decide +kernel) (c := 0) (by decide +kernel)).trans <|
  (l_iload_n (show gPG 235 19 = some (.iload_n 2) by decide +kernel) rfl).trans <|
  (l_iload (show gPG 235 20 = some (.iload 5) by decide +kernel) rfl).trans <|
  l_callV (u := 1) (v := .ref a) (as := [.int 2, .int i4, .int 0, .int i2, .int i5]) (show gPG 235 22 = some (jinvI 1 415) by decide +kernel) (by decide) (cc := 229) (na := 6) (kd := 13) (q4 := 0) (z := 10) (rest := []) (by decide +kernel) (by decide +kernel)  rfl (show (6 : Nat) ≤ 6 by decide) rfl cs0 (by decide +kernel) (cai (cai (cai (cai (cai (cav jr_ref ca0))))))) (
  rfl)
theorem b235_25 (d : Nat) (μ : jM) (a : Nat) (i1 : Int32) (i2 : Int32) (i3 : Int32) (i4 : Int32) (i5 : Int32) (i6 : Int32) (u7 : Value) (u8 : Value) (u9 : Value) (u10 : Value) (u11 : Value) (s0 : Int32) : jR d 235 25 [.ref a, .int i1, .int i2, .int i3, .int i4, .int i5, .int i6, u7, u8, u9, u10, u11] [.int s0] μ = (if s0 = 0 then jR d 235 33 [.ref a, .int i1, .int i2, .int i3, .int i4, .int i5, .int i6, u7, u8, u9, u10, u11] [.int 0] μ else jR d 235 28 [.ref a, .int i1, .int i2, .int i3, .int i4, .int i5, .int i6, u7, u8, u9, u10, u11] [] μ) :=
  (l_cmp0 (show gPG 235 25 = some (.ifCond .eq 7) by decide +kernel) (t := 32) (by decide +kernel)).trans <| jm_eq.trans <| ite_cg (
  l_iconst (show gPG 235 32 = some (.iconst 0) by decide +kernel) (c := 0) (by decide +kernel)) (
  rfl)
theorem b235_28 (d : Nat) (μ : jM) (a : Nat) (i1 : Int32) (i2 : Int32) (i3 : Int32) (i4 : Int32) (i5 : Int32) (i6 : Int32) (u7 : Value) (u8 : Value) (u9 : Value) (u10 : Value) (u11 : Value) : jR d 235 28 [.ref a, .int i1, .int i2, .int i3, .int i4, .int i5, .int i6, u7, u8, u9, u10, u11] [] μ = jR d 235 33 [.ref a, .int i1, .int i2, .int i3, .int i4, .int i5, .int i6, u7, u8, u9, u10, u11] [.int 1] μ :=
  (l_iconst (show gPG 235 28 = some (.iconst 1) by decide +kernel) (c := 1) (by decide +kernel)).trans <|
  l_goto (show gPG 235 29 = some (.goto 4) by decide +kernel) (t := 33) (by decide +kernel)
theorem b235_33 (d : Nat) (μ : jM) (a : Nat) (i1 : Int32) (i2 : Int32) (i3 : Int32) (i4 : Int32) (i5 : Int32) (i6 : Int32) (u7 : Value) (u8 : Value) (u9 : Value) (u10 : Value) (u11 : Value) (s0 : Int32) : jR (d + 1) 235 33 [.ref a, .int i1, .int i2, .int i3, .int i4, .int i5, .int i6, u7, u8, u9, u10, u11] [.int s0] μ = (if s0 = 0 then (if jrecv μ 13 (.ref a) = true then (jC d 229 [.ref a, .int 1, .int i3, .int 0, .int i2, .int i5] μ).bind fun p1 => jR (d + 1) 235 63 [.ref a, .int i1, .int i2, .int i3, .int i4, .int i5, .int i6, .int s0, u8, u9, u10, u11] (p1.1.toList ++ []) p1.2 else none) else (if jrecv μ 13 (.ref a) = true then (jC d 236 [.ref a, .int 1, .int i3, .int i5, .int i6] μ).bind fun p2 => jR (d + 1) 235 50 [.ref a, .int i1, .int i2, .int i3, .int i4, .int i5, .int i6, .int s0, u8, u9, u10, u11] (p2.1.toList ++ []) p2.2 else none)) :=
  (l_istore (show gPG 235 33 = some (.istore 7) by decide +kernel) (ls := [.ref a, .int i1, .int i2, .int i3, .int i4, .int i5, .int i6, u7, u8, u9, u10, u11]) (show (7 : Nat) < 12 by decide) (show _ = ([.ref a, .int i1, .int i2, .int i3, .int i4, .int i5, .int i6, .int s0, u8, u9, u10, u11] : List Value) from rfl)).trans <|
  (l_iload (show gPG 235 35 = some (.iload 7) by decide +kernel) rfl).trans <|
  (l_cmp0 (show gPG 235 37 = some (.ifCond .eq 16) by decide +kernel) (t := 53) (by decide +kernel)).trans <| jm_eq.trans <| ite_cg (
  (l_aload_n (show gPG 235 53 = some (.aload_n 0) by decide +kernel) rfl jr_ref).trans <|
  (l_iconst (show gPG 235 54 = some (.iconst 1) by decide +kernel) (c := 1) (by decide +kernel)).trans <|
  (l_iload_n (show gPG 235 55 = some (.iload_n 3) by decide +kernel) rfl).trans <|
  (l_iconst (show gPG 235 56 = some (.iconst 0) by decide +kernel) (c := 0) (by decide +kernel)).trans <|
  (l_iload_n (show gPG 235 57 = some (.iload_n 2) by decide +kernel) rfl).trans <|
  (l_iload (show gPG 235 58 = some (.iload 5) by decide +kernel) rfl).trans <|
  l_callV (u := 1) (v := .ref a) (as := [.int 1, .int i3, .int 0, .int i2, .int i5]) (show gPG 235 60 = some (jinvI 1 415) by decide +kernel) (by decide) (cc := 229) (na := 6) (kd := 13) (q4 := 0) (z := 10) (rest := []) (by decide +kernel) (by decide +kernel)  rfl (show (6 : Nat) ≤ 6 by decide) rfl cs0 (by decide +kernel) (cai (cai (cai (cai (cai (cav jr_ref ca0))))))) (
  (l_aload_n (show gPG 235 40 = some (.aload_n 0) by decide +kernel) rfl jr_ref).trans <|
  (l_iconst (show gPG 235 41 = some (.iconst 1) by decide +kernel) (c := 1) (by decide +kernel)).trans <|
  (l_iload_n (show gPG 235 42 = some (.iload_n 3) by decide +kernel) rfl).trans <|
  (l_iload (show gPG 235 43 = some (.iload 5) by decide +kernel) rfl).trans <|
  (l_iload (show gPG 235 45 = some (.iload 6) by decide +kernel) rfl).trans <|
  l_callV (u := 1) (v := .ref a) (as := [.int 1, .int i3, .int i5, .int i6]) (show gPG 235 47 = some (jinvI 1 429) by decide +kernel) (by decide) (cc := 236) (na := 5) (kd := 13) (q4 := 0) (z := 10) (rest := []) (by decide +kernel) (by decide +kernel)  rfl (show (5 : Nat) ≤ 5 by decide) rfl cs0 (by decide +kernel) (cai (cai (cai (cai (cav jr_ref ca0))))))
theorem b235_50 (d : Nat) (μ : jM) (a : Nat) (i1 : Int32) (i2 : Int32) (i3 : Int32) (i4 : Int32) (i5 : Int32) (i6 : Int32) (u7 : Value) (u8 : Value) (u9 : Value) (u10 : Value) (u11 : Value) : jR d 235 50 [.ref a, .int i1, .int i2, .int i3, .int i4, .int i5, .int i6, u7, u8, u9, u10, u11] [] μ = jR d 235 113 [.ref a, .int i1, .int i2, .int i3, .int i4, .int i5, .int i6, u7, u8, u9, u10, u11] [] μ :=
  l_goto (show gPG 235 50 = some (.goto 63) by decide +kernel) (t := 113) (by decide +kernel)
theorem b235_63 (d : Nat) (μ : jM) (a : Nat) (i1 : Int32) (i2 : Int32) (i3 : Int32) (i4 : Int32) (i5 : Int32) (i6 : Int32) (u7 : Value) (u8 : Value) (u9 : Value) (u10 : Value) (u11 : Value) (s0 : Int32) : jR (d + 1) 235 63 [.ref a, .int i1, .int i2, .int i3, .int i4, .int i5, .int i6, u7, u8, u9, u10, u11] [.int s0] μ = (if s0 = 0 then (if jrecv μ 13 (.ref a) = true then (jC d 237 [.ref a, .int i2, .int i3, .int i4, .int i5, .int i6] μ).bind fun p1 => jR (d + 1) 235 92 [.ref a, .int i1, .int i2, .int i3, .int i4, .int i5, .int i6, u7, u8, u9, u10, u11] (p1.1.toList ++ []) p1.2 else none) else (if jrecv μ 13 (.ref a) = true then (jC d 236 [.ref a, .int 2, .int i4, .int i5, .int i6] μ).bind fun p2 => jR (d + 1) 235 77 [.ref a, .int i1, .int i2, .int i3, .int i4, .int i5, .int i6, u7, u8, u9, u10, u11] (p2.1.toList ++ []) p2.2 else none)) :=
  (l_cmp0 (show gPG 235 63 = some (.ifCond .eq 17) by decide +kernel) (t := 80) (by decide +kernel)).trans <| jm_eq.trans <| ite_cg (
  (l_aload_n (show gPG 235 80 = some (.aload_n 0) by decide +kernel) rfl jr_ref).trans <|
  (l_iload_n (show gPG 235 81 = some (.iload_n 2) by decide +kernel) rfl).trans <|
  (l_iload_n (show gPG 235 82 = some (.iload_n 3) by decide +kernel) rfl).trans <|
  (l_iload (show gPG 235 83 = some (.iload 4) by decide +kernel) rfl).trans <|
  (l_iload (show gPG 235 85 = some (.iload 5) by decide +kernel) rfl).trans <|
  (l_iload (show gPG 235 87 = some (.iload 6) by decide +kernel) rfl).trans <|
  l_callV (u := 1) (v := .ref a) (as := [.int i2, .int i3, .int i4, .int i5, .int i6]) (show gPG 235 89 = some (jinvI 1 432) by decide +kernel) (by decide) (cc := 237) (na := 6) (kd := 13) (q4 := 0) (z := 10) (rest := []) (by decide +kernel) (by decide +kernel)  rfl (show (6 : Nat) ≤ 6 by decide) rfl cs0 (by decide +kernel) (cai (cai (cai (cai (cai (cav jr_ref ca0))))))) (
  (l_aload_n (show gPG 235 66 = some (.aload_n 0) by decide +kernel) rfl jr_ref).trans <|
  (l_iconst (show gPG 235 67 = some (.iconst 2) by decide +kernel) (c := 2) (by decide +kernel)).trans <|
  (l_iload (show gPG 235 68 = some (.iload 4) by decide +kernel) rfl).trans <|
  (l_iload (show gPG 235 70 = some (.iload 5) by decide +kernel) rfl).trans <|
  (l_iload (show gPG 235 72 = some (.iload 6) by decide +kernel) rfl).trans <|
  l_callV (u := 1) (v := .ref a) (as := [.int 2, .int i4, .int i5, .int i6]) (show gPG 235 74 = some (jinvI 1 429) by decide +kernel) (by decide) (cc := 236) (na := 5) (kd := 13) (q4 := 0) (z := 10) (rest := []) (by decide +kernel) (by decide +kernel)  rfl (show (5 : Nat) ≤ 5 by decide) rfl cs0 (by decide +kernel) (cai (cai (cai (cai (cav jr_ref ca0))))))
theorem b235_77 (d : Nat) (μ : jM) (a : Nat) (i1 : Int32) (i2 : Int32) (i3 : Int32) (i4 : Int32) (i5 : Int32) (i6 : Int32) (u7 : Value) (u8 : Value) (u9 : Value) (u10 : Value) (u11 : Value) : jR d 235 77 [.ref a, .int i1, .int i2, .int i3, .int i4, .int i5, .int i6, u7, u8, u9, u10, u11] [] μ = jR d 235 113 [.ref a, .int i1, .int i2, .int i3, .int i4, .int i5, .int i6, u7, u8, u9, u10, u11] [] μ :=
  l_goto (show gPG 235 77 = some (.goto 36) by decide +kernel) (t := 113) (by decide +kernel)
theorem b235_92 (d : Nat) (μ : jM) (a : Nat) (i1 : Int32) (i2 : Int32) (i3 : Int32) (i4 : Int32) (i5 : Int32) (i6 : Int32) (u7 : Value) (u8 : Value) (u9 : Value) (u10 : Value) (u11 : Value) : jR (d + 1) 235 92 [.ref a, .int i1, .int i2, .int i3, .int i4, .int i5, .int i6, u7, u8, u9, u10, u11] [] μ = (if jrecv μ 13 (.ref a) = true then (jC d 239 [.ref a, .int i2, .int i3, .int i4, .int i5] μ).bind fun p1 => jR (d + 1) 235 102 [.ref a, .int i1, .int i2, .int i3, .int i4, .int i5, .int i6, u7, u8, u9, u10, u11] (p1.1.toList ++ []) p1.2 else none) :=
  (l_aload_n (show gPG 235 92 = some (.aload_n 0) by decide +kernel) rfl jr_ref).trans <|
  (l_iload_n (show gPG 235 93 = some (.iload_n 2) by decide +kernel) rfl).trans <|
  (l_iload_n (show gPG 235 94 = some (.iload_n 3) by decide +kernel) rfl).trans <|
  (l_iload (show gPG 235 95 = some (.iload 4) by decide +kernel) rfl).trans <|
  (l_iload (show gPG 235 97 = some (.iload 5) by decide +kernel) rfl).trans <|
  l_callV (u := 1) (v := .ref a) (as := [.int i2, .int i3, .int i4, .int i5]) (show gPG 235 99 = some (jinvI 1 425) by decide +kernel) (by decide) (cc := 239) (na := 5) (kd := 13) (q4 := 0) (z := 10) (rest := []) (by decide +kernel) (by decide +kernel)  rfl (show (5 : Nat) ≤ 5 by decide) rfl cs0 (by decide +kernel) (cai (cai (cai (cai (cav jr_ref ca0)))))
theorem b235_102 (d : Nat) (μ : jM) (a : Nat) (i1 : Int32) (i2 : Int32) (i3 : Int32) (i4 : Int32) (i5 : Int32) (i6 : Int32) (u7 : Value) (u8 : Value) (u9 : Value) (u10 : Value) (u11 : Value) (s0 : Int32) : jR (d + 1) 235 102 [.ref a, .int i1, .int i2, .int i3, .int i4, .int i5, .int i6, u7, u8, u9, u10, u11] [.int s0] μ = (if s0 = 0 then (if jrecv μ 13 (.ref a) = true then (jC d 240 [.ref a, .int 1, .int i1, .int i5] μ).bind fun p1 => jR (d + 1) 235 113 [.ref a, .int i1, .int i2, .int i3, .int i4, .int i5, .int i6, u7, u8, u9, u10, u11] (p1.1.toList ++ []) p1.2 else none) else jR (d + 1) 235 113 [.ref a, .int i1, .int i2, .int i3, .int i4, .int i5, .int i6, u7, u8, u9, u10, u11] [] μ) :=
  (l_cmp0 (show gPG 235 102 = some (.ifCond .ne 11) by decide +kernel) (t := 113) (by decide +kernel)).trans <| jm_ne.trans <| ite_cg (
  (l_aload_n (show gPG 235 105 = some (.aload_n 0) by decide +kernel) rfl jr_ref).trans <|
  (l_iconst (show gPG 235 106 = some (.iconst 1) by decide +kernel) (c := 1) (by decide +kernel)).trans <|
  (l_iload_n (show gPG 235 107 = some (.iload_n 1) by decide +kernel) rfl).trans <|
  (l_iload (show gPG 235 108 = some (.iload 5) by decide +kernel) rfl).trans <|
  l_callV (u := 1) (v := .ref a) (as := [.int 1, .int i1, .int i5]) (show gPG 235 110 = some (jinvI 1 436) by decide +kernel) (by decide) (cc := 240) (na := 4) (kd := 13) (q4 := 0) (z := 10) (rest := []) (by decide +kernel) (by decide +kernel)  rfl (show (4 : Nat) ≤ 4 by decide) rfl cs0 (by decide +kernel) (cai (cai (cai (cav jr_ref ca0))))) (
  rfl)
theorem b235_113 (d : Nat) (μ : jM) (a : Nat) (i1 : Int32) (i2 : Int32) (i3 : Int32) (i4 : Int32) (i5 : Int32) (i6 : Int32) (u7 : Value) (u8 : Value) (u9 : Value) (u10 : Value) (u11 : Value) : jR (d + 1) 235 113 [.ref a, .int i1, .int i2, .int i3, .int i4, .int i5, .int i6, u7, u8, u9, u10, u11] [] μ = (if jrecv μ 13 (.ref a) = true then (jC d 232 [.ref a, .int 1, .int i3, .int i5] μ).bind fun p1 => jR (d + 1) 235 121 [.ref a, .int i1, .int i2, .int i3, .int i4, .int i5, .int i6, u7, u8, u9, u10, u11] (p1.1.toList ++ []) p1.2 else none) :=
  (l_aload_n (show gPG 235 113 = some (.aload_n 0) by decide +kernel) rfl jr_ref).trans <|
  (l_iconst (show gPG 235 114 = some (.iconst 1) by decide +kernel) (c := 1) (by decide +kernel)).trans <|
  (l_iload_n (show gPG 235 115 = some (.iload_n 3) by decide +kernel) rfl).trans <|
  (l_iload (show gPG 235 116 = some (.iload 5) by decide +kernel) rfl).trans <|
  l_callV (u := 1) (v := .ref a) (as := [.int 1, .int i3, .int i5]) (show gPG 235 118 = some (jinvI 1 419) by decide +kernel) (by decide) (cc := 232) (na := 4) (kd := 13) (q4 := 0) (z := 10) (rest := []) (by decide +kernel) (by decide +kernel)  rfl (show (4 : Nat) ≤ 4 by decide) rfl cs0 (by decide +kernel) (cai (cai (cai (cav jr_ref ca0))))
theorem b235_121 (d : Nat) (μ : jM) (a : Nat) (i1 : Int32) (i2 : Int32) (u3 : Value) (i4 : Int32) (i5 : Int32) (i6 : Int32) (u7 : Value) (u8 : Value) (u9 : Value) (u10 : Value) (u11 : Value) (s0 : Int32) : jR (d + 1) 235 121 [.ref a, .int i1, .int i2, u3, .int i4, .int i5, .int i6, u7, u8, u9, u10, u11] [.int s0] μ = (if jrecv μ 13 (.ref a) = true then (jC d 232 [.ref a, .int 2, .int i4, .int i5] μ).bind fun p1 => jR (d + 1) 235 132 [.ref a, .int i1, .int i2, u3, .int i4, .int i5, .int i6, u7, .int s0, u9, u10, u11] (p1.1.toList ++ []) p1.2 else none) :=
  (l_istore (show gPG 235 121 = some (.istore 8) by decide +kernel) (ls := [.ref a, .int i1, .int i2, u3, .int i4, .int i5, .int i6, u7, u8, u9, u10, u11]) (show (8 : Nat) < 12 by decide) (show _ = ([.ref a, .int i1, .int i2, u3, .int i4, .int i5, .int i6, u7, .int s0, u9, u10, u11] : List Value) from rfl)).trans <|
  (l_aload_n (show gPG 235 123 = some (.aload_n 0) by decide +kernel) rfl jr_ref).trans <|
  (l_iconst (show gPG 235 124 = some (.iconst 2) by decide +kernel) (c := 2) (by decide +kernel)).trans <|
  (l_iload (show gPG 235 125 = some (.iload 4) by decide +kernel) rfl).trans <|
  (l_iload (show gPG 235 127 = some (.iload 5) by decide +kernel) rfl).trans <|
  l_callV (u := 1) (v := .ref a) (as := [.int 2, .int i4, .int i5]) (show gPG 235 129 = some (jinvI 1 419) by decide +kernel) (by decide) (cc := 232) (na := 4) (kd := 13) (q4 := 0) (z := 10) (rest := []) (by decide +kernel) (by decide +kernel)  rfl (show (4 : Nat) ≤ 4 by decide) rfl cs0 (by decide +kernel) (cai (cai (cai (cav jr_ref ca0))))
theorem b235_132 (d : Nat) (μ : jM) (a : Nat) (i1 : Int32) (i2 : Int32) (u3 : Value) (u4 : Value) (i5 : Int32) (i6 : Int32) (u7 : Value) (i8 : Int32) (u9 : Value) (u10 : Value) (u11 : Value) (s0 : Int32) : jR (d + 1) 235 132 [.ref a, .int i1, .int i2, u3, u4, .int i5, .int i6, u7, .int i8, u9, u10, u11] [.int s0] μ = (if jrecv μ 13 (.ref a) = true then (jC d 232 [.ref a, .int 0, .int i2, .int i5] μ).bind fun p1 => jR (d + 1) 235 142 [.ref a, .int i1, .int i2, u3, u4, .int i5, .int i6, u7, .int i8, .int s0, u10, u11] (p1.1.toList ++ []) p1.2 else none) :=
  (l_istore (show gPG 235 132 = some (.istore 9) by decide +kernel) (ls := [.ref a, .int i1, .int i2, u3, u4, .int i5, .int i6, u7, .int i8, u9, u10, u11]) (show (9 : Nat) < 12 by decide) (show _ = ([.ref a, .int i1, .int i2, u3, u4, .int i5, .int i6, u7, .int i8, .int s0, u10, u11] : List Value) from rfl)).trans <|
  (l_aload_n (show gPG 235 134 = some (.aload_n 0) by decide +kernel) rfl jr_ref).trans <|
  (l_iconst (show gPG 235 135 = some (.iconst 0) by decide +kernel) (c := 0) (by decide +kernel)).trans <|
  (l_iload_n (show gPG 235 136 = some (.iload_n 2) by decide +kernel) rfl).trans <|
  (l_iload (show gPG 235 137 = some (.iload 5) by decide +kernel) rfl).trans <|
  l_callV (u := 1) (v := .ref a) (as := [.int 0, .int i2, .int i5]) (show gPG 235 139 = some (jinvI 1 419) by decide +kernel) (by decide) (cc := 232) (na := 4) (kd := 13) (q4 := 0) (z := 10) (rest := []) (by decide +kernel) (by decide +kernel)  rfl (show (4 : Nat) ≤ 4 by decide) rfl cs0 (by decide +kernel) (cai (cai (cai (cav jr_ref ca0))))
theorem b235_142 (d : Nat) (μ : jM) (a : Nat) (i1 : Int32) (u2 : Value) (u3 : Value) (u4 : Value) (i5 : Int32) (i6 : Int32) (u7 : Value) (i8 : Int32) (i9 : Int32) (u10 : Value) (u11 : Value) (s0 : Int32) : jR d 235 142 [.ref a, .int i1, u2, u3, u4, .int i5, .int i6, u7, .int i8, .int i9, u10, u11] [.int s0] μ = (if i8 = i9 then jR d 235 169 [.ref a, .int i1, u2, u3, u4, .int i5, .int i6, u7, .int i8, .int i9, .int s0, u11] [] μ else (if i8 = s0 then jR d 235 169 [.ref a, .int i1, u2, u3, u4, .int i5, .int i6, u7, .int i8, .int i9, .int s0, u11] [] μ else (if i9 = s0 then jR d 235 169 [.ref a, .int i1, u2, u3, u4, .int i5, .int i6, u7, .int i8, .int i9, .int s0, u11] [] μ else jR d 235 170 [.ref a, .int i1, u2, u3, u4, .int i5, .int i6, u7, .int i8, .int i9, .int s0, u11] [.int 1] μ))) :=
  (l_istore (show gPG 235 142 = some (.istore 10) by decide +kernel) (ls := [.ref a, .int i1, u2, u3, u4, .int i5, .int i6, u7, .int i8, .int i9, u10, u11]) (show (10 : Nat) < 12 by decide) (show _ = ([.ref a, .int i1, u2, u3, u4, .int i5, .int i6, u7, .int i8, .int i9, .int s0, u11] : List Value) from rfl)).trans <|
  (l_iload (show gPG 235 144 = some (.iload 8) by decide +kernel) rfl).trans <|
  (l_iload (show gPG 235 146 = some (.iload 9) by decide +kernel) rfl).trans <|
  (l_cmp (show gPG 235 148 = some (.if_icmp .eq 21) by decide +kernel) (t := 169) (by decide +kernel)).trans <| jm_eq.trans <| ite_cg (
  rfl) (
  (l_iload (show gPG 235 151 = some (.iload 8) by decide +kernel) rfl).trans <|
  (l_iload (show gPG 235 153 = some (.iload 10) by decide +kernel) rfl).trans <|
  (l_cmp (show gPG 235 155 = some (.if_icmp .eq 14) by decide +kernel) (t := 169) (by decide +kernel)).trans <| jm_eq.trans <| ite_cg (
  rfl) (
  (l_iload (show gPG 235 158 = some (.iload 9) by decide +kernel) rfl).trans <|
  (l_iload (show gPG 235 160 = some (.iload 10) by decide +kernel) rfl).trans <|
  (l_cmp (show gPG 235 162 = some (.if_icmp .eq 7) by decide +kernel) (t := 169) (by decide +kernel)).trans <| jm_eq.trans <| ite_cg (
  rfl) (
  (l_iconst (show gPG 235 165 = some (.iconst 1) by decide +kernel) (c := 1) (by decide +kernel)).trans <|
  l_goto (show gPG 235 166 = some (.goto 4) by decide +kernel) (t := 170) (by decide +kernel))))
theorem b235_169 (d : Nat) (μ : jM) (a : Nat) (i1 : Int32) (u2 : Value) (u3 : Value) (u4 : Value) (i5 : Int32) (i6 : Int32) (u7 : Value) (i8 : Int32) (i9 : Int32) (i10 : Int32) (u11 : Value) : jR d 235 169 [.ref a, .int i1, u2, u3, u4, .int i5, .int i6, u7, .int i8, .int i9, .int i10, u11] [] μ = jR d 235 170 [.ref a, .int i1, u2, u3, u4, .int i5, .int i6, u7, .int i8, .int i9, .int i10, u11] [.int 0] μ :=
  l_iconst (show gPG 235 169 = some (.iconst 0) by decide +kernel) (c := 0) (by decide +kernel)
theorem b235_170 (d : Nat) (μ : jM) (a : Nat) (i1 : Int32) (u2 : Value) (u3 : Value) (u4 : Value) (i5 : Int32) (i6 : Int32) (u7 : Value) (i8 : Int32) (i9 : Int32) (i10 : Int32) (u11 : Value) (s0 : Int32) : jR (d + 1) 235 170 [.ref a, .int i1, u2, u3, u4, .int i5, .int i6, u7, .int i8, .int i9, .int i10, u11] [.int s0] μ = (jgR μ 13 4 (.ref a)).bind fun w1 => (jaR μ w1 3).bind fun w2 => (if i8 = i9 then jR (d + 1) 235 194 [.ref a, .int i1, u2, u3, u4, .int i5, .int i6, u7, .int i8, .int i9, .int i10, .int s0] [.int i6, w2] μ else (if i9 = i10 then jR (d + 1) 235 194 [.ref a, .int i1, u2, u3, u4, .int i5, .int i6, u7, .int i8, .int i9, .int i10, .int s0] [.int i6, w2] μ else (if i8 = i10 then jR (d + 1) 235 218 [.ref a, .int i1, u2, u3, u4, .int i5, .int i6, u7, .int i8, .int i9, .int i10, .int s0] [.int i9, .int i6, w2] μ else (jC d 280 [.int i8, .int i9] μ).bind fun p3 => jR (d + 1) 235 218 [.ref a, .int i1, u2, u3, u4, .int i5, .int i6, u7, .int i8, .int i9, .int i10, .int s0] (p3.1.toList ++ [.int i6, w2]) p3.2))) :=
  (l_istore (show gPG 235 170 = some (.istore 11) by decide +kernel) (ls := [.ref a, .int i1, u2, u3, u4, .int i5, .int i6, u7, .int i8, .int i9, .int i10, u11]) (show (11 : Nat) < 12 by decide) (show _ = ([.ref a, .int i1, u2, u3, u4, .int i5, .int i6, u7, .int i8, .int i9, .int i10, .int s0] : List Value) from rfl)).trans <|
  (l_aload_n (show gPG 235 172 = some (.aload_n 0) by decide +kernel) rfl jr_ref).trans <|
  (l_gR (show gPG 235 173 = some (.getfield 26) by decide +kernel) (kd := 13) (sl := 4) (tc := 1) (fin := 1) (z := 0) (by decide +kernel) (by decide +kernel) (by decide +kernel)).trans <| bd_cg fun w1 hw1 =>
  (l_iconst (show gPG 235 176 = some (.iconst 3) by decide +kernel) (c := 3) (by decide +kernel)).trans <|
  (l_aald (show gPG 235 177 = some (.aaload) by decide +kernel) ).trans <| bd_cg fun w2 hw2 =>
  (l_iload (show gPG 235 178 = some (.iload 6) by decide +kernel) rfl).trans <|
  (l_iload (show gPG 235 180 = some (.iload 8) by decide +kernel) rfl).trans <|
  (l_iload (show gPG 235 182 = some (.iload 9) by decide +kernel) rfl).trans <|
  (l_cmp (show gPG 235 184 = some (.if_icmp .eq 10) by decide +kernel) (t := 194) (by decide +kernel)).trans <| jm_eq.trans <| ite_cg (
  rfl) (
  (l_iload (show gPG 235 187 = some (.iload 9) by decide +kernel) rfl).trans <|
  (l_iload (show gPG 235 189 = some (.iload 10) by decide +kernel) rfl).trans <|
  (l_cmp (show gPG 235 191 = some (.if_icmp .ne 8) by decide +kernel) (t := 199) (by decide +kernel)).trans <| jm_ne.trans <| ite_cg (
  rfl) (
  (l_iload (show gPG 235 199 = some (.iload 8) by decide +kernel) rfl).trans <|
  (l_iload (show gPG 235 201 = some (.iload 10) by decide +kernel) rfl).trans <|
  (l_cmp (show gPG 235 203 = some (.if_icmp .ne 8) by decide +kernel) (t := 211) (by decide +kernel)).trans <| jm_ne.trans <| ite_cg (
  (l_iload (show gPG 235 206 = some (.iload 9) by decide +kernel) rfl).trans <|
  l_goto (show gPG 235 208 = some (.goto 10) by decide +kernel) (t := 218) (by decide +kernel)) (
  (l_iload (show gPG 235 211 = some (.iload 8) by decide +kernel) rfl).trans <|
  (l_iload (show gPG 235 213 = some (.iload 9) by decide +kernel) rfl).trans <|
  l_callS (u := 2) (as := [.int i8, .int i9]) (show gPG 235 215 = some (jinvI 2 366) by decide +kernel) (by decide) (cc := 280) (na := 2) (q4 := 0) (z := 12) (rest := [.int i6, w2]) (by decide +kernel) (by decide +kernel)  rfl (show (2 : Nat) ≤ 4 by decide) rfl (csi (csv (jr_aR hw2) cs0)) (by decide +kernel) (cai (cai ca0)) (fun e => absurd e (by decide)))))
theorem b235_194 (d : Nat) (μ : jM) (a : Nat) (i1 : Int32) (u2 : Value) (u3 : Value) (u4 : Value) (i5 : Int32) (u6 : Value) (u7 : Value) (i8 : Int32) (u9 : Value) (u10 : Value) (i11 : Int32) (s0 : Value) (s1 : Int32) (hs0 : jisref s0 = true) : jR d 235 194 [.ref a, .int i1, u2, u3, u4, .int i5, u6, u7, .int i8, u9, u10, .int i11] [.int s1, s0] μ = jR d 235 218 [.ref a, .int i1, u2, u3, u4, .int i5, u6, u7, .int i8, u9, u10, .int i11] [.int i8, .int s1, s0] μ :=
  (l_iload (show gPG 235 194 = some (.iload 8) by decide +kernel) rfl).trans <|
  l_goto (show gPG 235 196 = some (.goto 22) by decide +kernel) (t := 218) (by decide +kernel)
theorem b235_218 (d : Nat) (μ : jM) (a : Nat) (i1 : Int32) (u2 : Value) (u3 : Value) (u4 : Value) (i5 : Int32) (u6 : Value) (u7 : Value) (u8 : Value) (u9 : Value) (u10 : Value) (i11 : Int32) (s0 : Value) (s1 : Int32) (s2 : Int32) (hs0 : jisref s0 = true) : jR (d + 1) 235 218 [.ref a, .int i1, u2, u3, u4, .int i5, u6, u7, u8, u9, u10, .int i11] [.int s2, .int s1, s0] μ = (jsI μ s0 s1 s2).bind fun m1 => (if i11 = 0 then jR (d + 1) 235 232 [.ref a, .int i1, u2, u3, u4, .int i5, u6, u7, u8, u9, u10, .int i11] [] m1 else (if jrecv m1 13 (.ref a) = true then (jC d 240 [.ref a, .int 3, .int i1, .int i5] m1).bind fun p2 => jR (d + 1) 235 232 [.ref a, .int i1, u2, u3, u4, .int i5, u6, u7, u8, u9, u10, .int i11] (p2.1.toList ++ []) p2.2 else none)) :=
  (l_iast (show gPG 235 218 = some (.iastore) by decide +kernel) ).trans <| bd_cg fun m1 hm1 =>
  (l_iload (show gPG 235 219 = some (.iload 11) by decide +kernel) rfl).trans <|
  (l_cmp0 (show gPG 235 221 = some (.ifCond .eq 11) by decide +kernel) (t := 232) (by decide +kernel)).trans <| jm_eq.trans <| ite_cg (
  rfl) (
  (l_aload_n (show gPG 235 224 = some (.aload_n 0) by decide +kernel) rfl jr_ref).trans <|
  (l_iconst (show gPG 235 225 = some (.iconst 3) by decide +kernel) (c := 3) (by decide +kernel)).trans <|
  (l_iload_n (show gPG 235 226 = some (.iload_n 1) by decide +kernel) rfl).trans <|
  (l_iload (show gPG 235 227 = some (.iload 5) by decide +kernel) rfl).trans <|
  l_callV (u := 1) (v := .ref a) (as := [.int 3, .int i1, .int i5]) (show gPG 235 229 = some (jinvI 1 436) by decide +kernel) (by decide) (cc := 240) (na := 4) (kd := 13) (q4 := 0) (z := 10) (rest := []) (by decide +kernel) (by decide +kernel)  rfl (show (4 : Nat) ≤ 4 by decide) rfl cs0 (by decide +kernel) (cai (cai (cai (cav jr_ref ca0)))))
theorem b235_232 (d : Nat) (μ : jM) (u0 : Value) (u1 : Value) (u2 : Value) (u3 : Value) (u4 : Value) (u5 : Value) (u6 : Value) (u7 : Value) (u8 : Value) (u9 : Value) (u10 : Value) (u11 : Value) : jR d 235 232 [u0, u1, u2, u3, u4, u5, u6, u7, u8, u9, u10, u11] [] μ = some (none, μ) :=
  l_ret (show gPG 235 232 = some (.return_) by decide +kernel) (by decide +kernel)
-- Ref.takesFrom
theorem b236_0 (d : Nat) (μ : jM) (a : Nat) (i1 : Int32) (i2 : Int32) (i3 : Int32) (i4 : Int32) : jR (d + 1) 236 0 [.ref a, .int i1, .int i2, .int i3, .int i4] [] μ = (if i2 = (-1) then (if jrecv μ 13 (.ref a) = true then (jC d 192 [.ref a, .int 3, .int i4, .int 0, .int 0, .null] μ).bind fun p11 => jR (d + 1) 236 15 [.ref a, .int i1, .int i2, .int i3, .int i4] (p11.1.toList ++ []) p11.2 else none) else (jgR μ 13 2 (.ref a)).bind fun w1 => (jaR μ w1 i1).bind fun w2 => (jaI μ w2 ((3 * i2) + i3)).bind fun x3 => (jgR μ 13 3 (.ref a)).bind fun w4 => (jaR μ w4 i1).bind fun w5 => (jaI μ w5 ((3 * i2) + i3)).bind fun x6 => (jgR μ 13 5 (.ref a)).bind fun w7 => (jaR μ w7 i1).bind fun w8 => (jaR μ w8 ((3 * i2) + i3)).bind fun w9 => (if jrecv μ 13 (.ref a) = true then (jC d 192 [.ref a, .int 3, .int i4, .int x3, .int x6, w9] μ).bind fun p10 => jR (d + 1) 236 61 [.ref a, .int i1, .int i2, .int i3, .int i4] (p10.1.toList ++ []) p10.2 else none)) :=
  (l_iload_n (show gPG 236 0 = some (.iload_n 2) by decide +kernel) rfl).trans <|
  (l_iconst (show gPG 236 1 = some (.iconst (-1)) by decide +kernel) (c := (-1)) (by decide +kernel)).trans <|
  (l_cmp (show gPG 236 2 = some (.if_icmp .ne 16) by decide +kernel) (t := 18) (by decide +kernel)).trans <| jm_ne.trans <| ite_cg (
  (l_aload_n (show gPG 236 5 = some (.aload_n 0) by decide +kernel) rfl jr_ref).trans <|
  (l_iconst (show gPG 236 6 = some (.iconst 3) by decide +kernel) (c := 3) (by decide +kernel)).trans <|
  (l_iload (show gPG 236 7 = some (.iload 4) by decide +kernel) rfl).trans <|
  (l_iconst (show gPG 236 9 = some (.iconst 0) by decide +kernel) (c := 0) (by decide +kernel)).trans <|
  (l_iconst (show gPG 236 10 = some (.iconst 0) by decide +kernel) (c := 0) (by decide +kernel)).trans <|
  (l_anull (show gPG 236 11 = some (.aconst_null) by decide +kernel) ).trans <|
  l_callV (u := 1) (v := .ref a) (as := [.int 3, .int i4, .int 0, .int 0, .null]) (show gPG 236 12 = some (jinvI 1 294) by decide +kernel) (by decide) (cc := 192) (na := 6) (kd := 13) (q4 := 0) (z := 10) (rest := []) (by decide +kernel) (by decide +kernel)  rfl (show (6 : Nat) ≤ 6 by decide) rfl cs0 (by decide +kernel) (cav jr_null (cai (cai (cai (cai (cav jr_ref ca0))))))) (
  (l_aload_n (show gPG 236 18 = some (.aload_n 0) by decide +kernel) rfl jr_ref).trans <|
  (l_iconst (show gPG 236 19 = some (.iconst 3) by decide +kernel) (c := 3) (by decide +kernel)).trans <|
  (l_iload (show gPG 236 20 = some (.iload 4) by decide +kernel) rfl).trans <|
  (l_aload_n (show gPG 236 22 = some (.aload_n 0) by decide +kernel) rfl jr_ref).trans <|
  (l_gR (show gPG 236 23 = some (.getfield 20) by decide +kernel) (kd := 13) (sl := 2) (tc := 1) (fin := 1) (z := 0) (by decide +kernel) (by decide +kernel) (by decide +kernel)).trans <| bd_cg fun w1 hw1 =>
  (l_iload_n (show gPG 236 26 = some (.iload_n 1) by decide +kernel) rfl).trans <|
  (l_aald (show gPG 236 27 = some (.aaload) by decide +kernel) ).trans <| bd_cg fun w2 hw2 =>
  (l_iconst (show gPG 236 28 = some (.iconst 3) by decide +kernel) (c := 3) (by decide +kernel)).trans <|
  (l_iload_n (show gPG 236 29 = some (.iload_n 2) by decide +kernel) rfl).trans <|
  (l_imul (show gPG 236 30 = some (.imul) by decide +kernel) ).trans <|
  (l_iload_n (show gPG 236 31 = some (.iload_n 3) by decide +kernel) rfl).trans <|
  (l_iadd (show gPG 236 32 = some (.iadd) by decide +kernel) ).trans <|
  (l_iald (show gPG 236 33 = some (.iaload) by decide +kernel) ).trans <| bd_cg fun x3 hx3 =>
  (l_aload_n (show gPG 236 34 = some (.aload_n 0) by decide +kernel) rfl jr_ref).trans <|
  (l_gR (show gPG 236 35 = some (.getfield 23) by decide +kernel) (kd := 13) (sl := 3) (tc := 1) (fin := 1) (z := 0) (by decide +kernel) (by decide +kernel) (by decide +kernel)).trans <| bd_cg fun w4 hw4 =>
  (l_iload_n (show gPG 236 38 = some (.iload_n 1) by decide +kernel) rfl).trans <|
  (l_aald (show gPG 236 39 = some (.aaload) by decide +kernel) ).trans <| bd_cg fun w5 hw5 =>
  (l_iconst (show gPG 236 40 = some (.iconst 3) by decide +kernel) (c := 3) (by decide +kernel)).trans <|
  (l_iload_n (show gPG 236 41 = some (.iload_n 2) by decide +kernel) rfl).trans <|
  (l_imul (show gPG 236 42 = some (.imul) by decide +kernel) ).trans <|
  (l_iload_n (show gPG 236 43 = some (.iload_n 3) by decide +kernel) rfl).trans <|
  (l_iadd (show gPG 236 44 = some (.iadd) by decide +kernel) ).trans <|
  (l_iald (show gPG 236 45 = some (.iaload) by decide +kernel) ).trans <| bd_cg fun x6 hx6 =>
  (l_aload_n (show gPG 236 46 = some (.aload_n 0) by decide +kernel) rfl jr_ref).trans <|
  (l_gR (show gPG 236 47 = some (.getfield 31) by decide +kernel) (kd := 13) (sl := 5) (tc := 1) (fin := 1) (z := 0) (by decide +kernel) (by decide +kernel) (by decide +kernel)).trans <| bd_cg fun w7 hw7 =>
  (l_iload_n (show gPG 236 50 = some (.iload_n 1) by decide +kernel) rfl).trans <|
  (l_aald (show gPG 236 51 = some (.aaload) by decide +kernel) ).trans <| bd_cg fun w8 hw8 =>
  (l_iconst (show gPG 236 52 = some (.iconst 3) by decide +kernel) (c := 3) (by decide +kernel)).trans <|
  (l_iload_n (show gPG 236 53 = some (.iload_n 2) by decide +kernel) rfl).trans <|
  (l_imul (show gPG 236 54 = some (.imul) by decide +kernel) ).trans <|
  (l_iload_n (show gPG 236 55 = some (.iload_n 3) by decide +kernel) rfl).trans <|
  (l_iadd (show gPG 236 56 = some (.iadd) by decide +kernel) ).trans <|
  (l_aald (show gPG 236 57 = some (.aaload) by decide +kernel) ).trans <| bd_cg fun w9 hw9 =>
  l_callV (u := 1) (v := .ref a) (as := [.int 3, .int i4, .int x3, .int x6, w9]) (show gPG 236 58 = some (jinvI 1 294) by decide +kernel) (by decide) (cc := 192) (na := 6) (kd := 13) (q4 := 0) (z := 10) (rest := []) (by decide +kernel) (by decide +kernel)  rfl (show (6 : Nat) ≤ 6 by decide) rfl cs0 (by decide +kernel) (cav (jr_aR hw9) (cai (cai (cai (cai (cav jr_ref ca0)))))))
theorem b236_15 (d : Nat) (μ : jM) (u0 : Value) (u1 : Value) (u2 : Value) (u3 : Value) (u4 : Value) : jR d 236 15 [u0, u1, u2, u3, u4] [] μ = jR d 236 61 [u0, u1, u2, u3, u4] [] μ :=
  l_goto (show gPG 236 15 = some (.goto 46) by decide +kernel) (t := 61) (by decide +kernel)
theorem b236_61 (d : Nat) (μ : jM) (u0 : Value) (u1 : Value) (u2 : Value) (u3 : Value) (u4 : Value) : jR d 236 61 [u0, u1, u2, u3, u4] [] μ = some (none, μ) :=
  l_ret (show gPG 236 61 = some (.return_) by decide +kernel) (by decide +kernel)
-- Ref.byRule
theorem b237_0 (d : Nat) (μ : jM) (a : Nat) (i1 : Int32) (i2 : Int32) (i3 : Int32) (i4 : Int32) (i5 : Int32) : jR (d + 1) 237 0 [.ref a, .int i1, .int i2, .int i3, .int i4, .int i5, .retAddr 0, .retAddr 0, .retAddr 0] [] μ = (if jrecv μ 13 (.ref a) = true then (jC d 238 [.ref a, .int 1, .int i2, .int i4] μ).bind fun p1 => jR (d + 1) 237 8 [.ref a, .int i1, .int i2, .int i3, .int i4, .int i5, .retAddr 0, .retAddr 0, .retAddr 0] (p1.1.toList ++ []) p1.2 else none) :=
  (l_aload_n (show gPG 237 0 = some (.aload_n 0) by decide +kernel) rfl jr_ref).trans <|
  (l_iconst (show gPG 237 1 = some (.iconst 1) by decide +kernel) (c := 1) (by decide +kernel)).trans <|
  (l_iload_n (show gPG 237 2 = some (.iload_n 2) by decide +kernel) rfl).trans <|
  (l_iload (show gPG 237 3 = some (.iload 4) by decide +kernel) rfl).trans <|
  l_callV (u := 1) (v := .ref a) (as := [.int 1, .int i2, .int i4]) (show gPG 237 5 = some (jinvI 1 422) by decide +kernel) (by decide) (cc := 238) (na := 4) (kd := 13) (q4 := 0) (z := 10) (rest := []) (by decide +kernel) (by decide +kernel)  rfl (show (4 : Nat) ≤ 4 by decide) rfl cs0 (by decide +kernel) (cai (cai (cai (cav jr_ref ca0))))
theorem b237_8 (d : Nat) (μ : jM) (a : Nat) (i1 : Int32) (i2 : Int32) (i3 : Int32) (i4 : Int32) (i5 : Int32) (u6 : Value) (u7 : Value) (u8 : Value) (s0 : Int32) : jR (d + 1) 237 8 [.ref a, .int i1, .int i2, .int i3, .int i4, .int i5, u6, u7, u8] [.int s0] μ = (if jrecv μ 13 (.ref a) = true then (jC d 238 [.ref a, .int 2, .int i3, .int i4] μ).bind fun p1 => jR (d + 1) 237 18 [.ref a, .int i1, .int i2, .int i3, .int i4, .int i5, .int s0, u7, u8] (p1.1.toList ++ []) p1.2 else none) :=
  (l_istore (show gPG 237 8 = some (.istore 6) by decide +kernel) (ls := [.ref a, .int i1, .int i2, .int i3, .int i4, .int i5, u6, u7, u8]) (show (6 : Nat) < 9 by decide) (show _ = ([.ref a, .int i1, .int i2, .int i3, .int i4, .int i5, .int s0, u7, u8] : List Value) from rfl)).trans <|
  (l_aload_n (show gPG 237 10 = some (.aload_n 0) by decide +kernel) rfl jr_ref).trans <|
  (l_iconst (show gPG 237 11 = some (.iconst 2) by decide +kernel) (c := 2) (by decide +kernel)).trans <|
  (l_iload_n (show gPG 237 12 = some (.iload_n 3) by decide +kernel) rfl).trans <|
  (l_iload (show gPG 237 13 = some (.iload 4) by decide +kernel) rfl).trans <|
  l_callV (u := 1) (v := .ref a) (as := [.int 2, .int i3, .int i4]) (show gPG 237 15 = some (jinvI 1 422) by decide +kernel) (by decide) (cc := 238) (na := 4) (kd := 13) (q4 := 0) (z := 10) (rest := []) (by decide +kernel) (by decide +kernel)  rfl (show (4 : Nat) ≤ 4 by decide) rfl cs0 (by decide +kernel) (cai (cai (cai (cav jr_ref ca0))))
theorem b237_18 (d : Nat) (μ : jM) (a : Nat) (i1 : Int32) (i2 : Int32) (i3 : Int32) (i4 : Int32) (i5 : Int32) (i6 : Int32) (u7 : Value) (u8 : Value) (s0 : Int32) : jR (d + 1) 237 18 [.ref a, .int i1, .int i2, .int i3, .int i4, .int i5, .int i6, u7, u8] [.int s0] μ = (if jrecv μ 13 (.ref a) = true then (jC d 239 [.ref a, .int i1, .int i2, .int i3, .int i4] μ).bind fun p1 => jR (d + 1) 237 29 [.ref a, .int i1, .int i2, .int i3, .int i4, .int i5, .int i6, .int s0, u8] (p1.1.toList ++ []) p1.2 else none) :=
  (l_istore (show gPG 237 18 = some (.istore 7) by decide +kernel) (ls := [.ref a, .int i1, .int i2, .int i3, .int i4, .int i5, .int i6, u7, u8]) (show (7 : Nat) < 9 by decide) (show _ = ([.ref a, .int i1, .int i2, .int i3, .int i4, .int i5, .int i6, .int s0, u8] : List Value) from rfl)).trans <|
  (l_aload_n (show gPG 237 20 = some (.aload_n 0) by decide +kernel) rfl jr_ref).trans <|
  (l_iload_n (show gPG 237 21 = some (.iload_n 1) by decide +kernel) rfl).trans <|
  (l_iload_n (show gPG 237 22 = some (.iload_n 2) by decide +kernel) rfl).trans <|
  (l_iload_n (show gPG 237 23 = some (.iload_n 3) by decide +kernel) rfl).trans <|
  (l_iload (show gPG 237 24 = some (.iload 4) by decide +kernel) rfl).trans <|
  l_callV (u := 1) (v := .ref a) (as := [.int i1, .int i2, .int i3, .int i4]) (show gPG 237 26 = some (jinvI 1 425) by decide +kernel) (by decide) (cc := 239) (na := 5) (kd := 13) (q4 := 0) (z := 10) (rest := []) (by decide +kernel) (by decide +kernel)  rfl (show (5 : Nat) ≤ 5 by decide) rfl cs0 (by decide +kernel) (cai (cai (cai (cai (cav jr_ref ca0)))))
theorem b237_29 (d : Nat) (μ : jM) (a : Nat) (i1 : Int32) (i2 : Int32) (i3 : Int32) (i4 : Int32) (i5 : Int32) (i6 : Int32) (i7 : Int32) (u8 : Value) (s0 : Int32) : jR (d + 1) 237 29 [.ref a, .int i1, .int i2, .int i3, .int i4, .int i5, .int i6, .int i7, u8] [.int s0] μ = (if s0 = 0 then (jgR μ 13 6 (.ref a)).bind fun w1 => (jaI μ w1 i4).bind fun x2 => (if x2 = 1 then (if jrecv μ 13 (.ref a) = true then (jC d 236 [.ref a, .int 2, .int i3, .int i4, .int i5] μ).bind fun p9 => jR (d + 1) 237 109 [.ref a, .int i1, .int i2, .int i3, .int i4, .int i5, .int i6, .int i7, u8] (p9.1.toList ++ []) p9.2 else none) else (jgR μ 13 6 (.ref a)).bind fun w3 => (jaI μ w3 i4).bind fun x4 => (if x4 = 5 then (if jrecv μ 13 (.ref a) = true then (jC d 236 [.ref a, .int 0, .int i1, .int i4, .int i5] μ).bind fun p8 => jR (d + 1) 237 133 [.ref a, .int i1, .int i2, .int i3, .int i4, .int i5, .int i6, .int i7, u8] (p8.1.toList ++ []) p8.2 else none) else (jgR μ 13 6 (.ref a)).bind fun w5 => (jaI μ w5 i4).bind fun x6 => (if x6 < 2 then jR (d + 1) 237 182 [.ref a, .int i1, .int i2, .int i3, .int i4, .int i5, .int i6, .int i7, u8] [] μ else (if jrecv μ 13 (.ref a) = true then (jC d 230 [.ref a, .int 1, .int i2, .int i4] μ).bind fun p7 => jR (d + 1) 237 155 [.ref a, .int i1, .int i2, .int i3, .int i4, .int i5, .int i6, .int i7, u8] (p7.1.toList ++ []) p7.2 else none)))) else (if jrecv μ 13 (.ref a) = true then (jC d 238 [.ref a, .int 0, .int i1, .int i4] μ).bind fun p10 => jR (d + 1) 237 45 [.ref a, .int i1, .int i2, .int i3, .int i4, .int i5, .int i6, .int i7, u8] (p10.1.toList ++ [.int (i6 + i7)]) p10.2 else none)) :=
  (l_cmp0 (show gPG 237 29 = some (.ifCond .eq 59) by decide +kernel) (t := 88) (by decide +kernel)).trans <| jm_eq.trans <| ite_cg (
  (l_aload_n (show gPG 237 88 = some (.aload_n 0) by decide +kernel) rfl jr_ref).trans <|
  (l_gR (show gPG 237 89 = some (.getfield 34) by decide +kernel) (kd := 13) (sl := 6) (tc := 1) (fin := 1) (z := 0) (by decide +kernel) (by decide +kernel) (by decide +kernel)).trans <| bd_cg fun w1 hw1 =>
  (l_iload (show gPG 237 92 = some (.iload 4) by decide +kernel) rfl).trans <|
  (l_iald (show gPG 237 94 = some (.iaload) by decide +kernel) ).trans <| bd_cg fun x2 hx2 =>
  (l_iconst (show gPG 237 95 = some (.iconst 1) by decide +kernel) (c := 1) (by decide +kernel)).trans <|
  (l_cmp (show gPG 237 96 = some (.if_icmp .ne 16) by decide +kernel) (t := 112) (by decide +kernel)).trans <| jm_ne.trans <| ite_cg (
  (l_aload_n (show gPG 237 99 = some (.aload_n 0) by decide +kernel) rfl jr_ref).trans <|
  (l_iconst (show gPG 237 100 = some (.iconst 2) by decide +kernel) (c := 2) (by decide +kernel)).trans <|
  (l_iload_n (show gPG 237 101 = some (.iload_n 3) by decide +kernel) rfl).trans <|
  (l_iload (show gPG 237 102 = some (.iload 4) by decide +kernel) rfl).trans <|
  (l_iload (show gPG 237 104 = some (.iload 5) by decide +kernel) rfl).trans <|
  l_callV (u := 1) (v := .ref a) (as := [.int 2, .int i3, .int i4, .int i5]) (show gPG 237 106 = some (jinvI 1 429) by decide +kernel) (by decide) (cc := 236) (na := 5) (kd := 13) (q4 := 0) (z := 10) (rest := []) (by decide +kernel) (by decide +kernel)  rfl (show (5 : Nat) ≤ 5 by decide) rfl cs0 (by decide +kernel) (cai (cai (cai (cai (cav jr_ref ca0)))))) (
  (l_aload_n (show gPG 237 112 = some (.aload_n 0) by decide +kernel) rfl jr_ref).trans <|
  (l_gR (show gPG 237 113 = some (.getfield 34) by decide +kernel) (kd := 13) (sl := 6) (tc := 1) (fin := 1) (z := 0) (by decide +kernel) (by decide +kernel) (by decide +kernel)).trans <| bd_cg fun w3 hw3 =>
  (l_iload (show gPG 237 116 = some (.iload 4) by decide +kernel) rfl).trans <|
  (l_iald (show gPG 237 118 = some (.iaload) by decide +kernel) ).trans <| bd_cg fun x4 hx4 =>
  (l_iconst (show gPG 237 119 = some (.iconst 5) by decide +kernel) (c := 5) (by decide +kernel)).trans <|
  (l_cmp (show gPG 237 120 = some (.if_icmp .ne 16) by decide +kernel) (t := 136) (by decide +kernel)).trans <| jm_ne.trans <| ite_cg (
  (l_aload_n (show gPG 237 123 = some (.aload_n 0) by decide +kernel) rfl jr_ref).trans <|
  (l_iconst (show gPG 237 124 = some (.iconst 0) by decide +kernel) (c := 0) (by decide +kernel)).trans <|
  (l_iload_n (show gPG 237 125 = some (.iload_n 1) by decide +kernel) rfl).trans <|
  (l_iload (show gPG 237 126 = some (.iload 4) by decide +kernel) rfl).trans <|
  (l_iload (show gPG 237 128 = some (.iload 5) by decide +kernel) rfl).trans <|
  l_callV (u := 1) (v := .ref a) (as := [.int 0, .int i1, .int i4, .int i5]) (show gPG 237 130 = some (jinvI 1 429) by decide +kernel) (by decide) (cc := 236) (na := 5) (kd := 13) (q4 := 0) (z := 10) (rest := []) (by decide +kernel) (by decide +kernel)  rfl (show (5 : Nat) ≤ 5 by decide) rfl cs0 (by decide +kernel) (cai (cai (cai (cai (cav jr_ref ca0)))))) (
  (l_aload_n (show gPG 237 136 = some (.aload_n 0) by decide +kernel) rfl jr_ref).trans <|
  (l_gR (show gPG 237 137 = some (.getfield 34) by decide +kernel) (kd := 13) (sl := 6) (tc := 1) (fin := 1) (z := 0) (by decide +kernel) (by decide +kernel) (by decide +kernel)).trans <| bd_cg fun w5 hw5 =>
  (l_iload (show gPG 237 140 = some (.iload 4) by decide +kernel) rfl).trans <|
  (l_iald (show gPG 237 142 = some (.iaload) by decide +kernel) ).trans <| bd_cg fun x6 hx6 =>
  (l_iconst (show gPG 237 143 = some (.iconst 2) by decide +kernel) (c := 2) (by decide +kernel)).trans <|
  (l_cmp (show gPG 237 144 = some (.if_icmp .lt 38) by decide +kernel) (t := 182) (by decide +kernel)).trans <| jm_lt.trans <| ite_cg (
  rfl) (
  (l_aload_n (show gPG 237 147 = some (.aload_n 0) by decide +kernel) rfl jr_ref).trans <|
  (l_iconst (show gPG 237 148 = some (.iconst 1) by decide +kernel) (c := 1) (by decide +kernel)).trans <|
  (l_iload_n (show gPG 237 149 = some (.iload_n 2) by decide +kernel) rfl).trans <|
  (l_iload (show gPG 237 150 = some (.iload 4) by decide +kernel) rfl).trans <|
  l_callV (u := 1) (v := .ref a) (as := [.int 1, .int i2, .int i4]) (show gPG 237 152 = some (jinvI 1 408) by decide +kernel) (by decide) (cc := 230) (na := 4) (kd := 13) (q4 := 0) (z := 10) (rest := []) (by decide +kernel) (by decide +kernel)  rfl (show (4 : Nat) ≤ 4 by decide) rfl cs0 (by decide +kernel) (cai (cai (cai (cav jr_ref ca0)))))))) (
  (l_iload (show gPG 237 32 = some (.iload 6) by decide +kernel) rfl).trans <|
  (l_iload (show gPG 237 34 = some (.iload 7) by decide +kernel) rfl).trans <|
  (l_iadd (show gPG 237 36 = some (.iadd) by decide +kernel) ).trans <|
  (l_aload_n (show gPG 237 37 = some (.aload_n 0) by decide +kernel) rfl jr_ref).trans <|
  (l_iconst (show gPG 237 38 = some (.iconst 0) by decide +kernel) (c := 0) (by decide +kernel)).trans <|
  (l_iload_n (show gPG 237 39 = some (.iload_n 1) by decide +kernel) rfl).trans <|
  (l_iload (show gPG 237 40 = some (.iload 4) by decide +kernel) rfl).trans <|
  l_callV (u := 1) (v := .ref a) (as := [.int 0, .int i1, .int i4]) (show gPG 237 42 = some (jinvI 1 422) by decide +kernel) (by decide) (cc := 238) (na := 4) (kd := 13) (q4 := 0) (z := 10) (rest := [.int (i6 + i7)]) (by decide +kernel) (by decide +kernel)  rfl (show (4 : Nat) ≤ 5 by decide) rfl (csi cs0) (by decide +kernel) (cai (cai (cai (cav jr_ref ca0)))))
theorem b237_45 (d : Nat) (μ : jM) (a : Nat) (u1 : Value) (u2 : Value) (u3 : Value) (i4 : Int32) (i5 : Int32) (u6 : Value) (u7 : Value) (u8 : Value) (s0 : Int32) (s1 : Int32) : jR (d + 1) 237 45 [.ref a, u1, u2, u3, .int i4, .int i5, u6, u7, u8] [.int s1, .int s0] μ = (jgR μ 13 6 (.ref a)).bind fun w1 => (jaI μ w1 i4).bind fun x2 => (if x2 = 4 then (jgR μ 13 7 (.ref a)).bind fun w3 => (jaI μ w3 i4).bind fun x4 => (jC d 279 [.int (s0 - s1), .int x4] μ).bind fun p5 => jR (d + 1) 237 76 [.ref a, u1, u2, u3, .int i4, .int i5, u6, u7, .int (s0 - s1)] (p5.1.toList ++ [.int 1, .int i5, .int 3, .ref a]) p5.2 else jR (d + 1) 237 81 [.ref a, u1, u2, u3, .int i4, .int i5, u6, u7, .int (s0 - s1)] [.int (s0 - s1), .int 1, .int i5, .int 3, .ref a] μ) :=
  (l_isub (show gPG 237 45 = some (.isub) by decide +kernel) ).trans <|
  (l_istore (show gPG 237 46 = some (.istore 8) by decide +kernel) (ls := [.ref a, u1, u2, u3, .int i4, .int i5, u6, u7, u8]) (show (8 : Nat) < 9 by decide) (show _ = ([.ref a, u1, u2, u3, .int i4, .int i5, u6, u7, .int (s0 - s1)] : List Value) from rfl)).trans <|
  (l_aload_n (show gPG 237 48 = some (.aload_n 0) by decide +kernel) rfl jr_ref).trans <|
  (l_iconst (show gPG 237 49 = some (.iconst 3) by decide +kernel) (c := 3) (by decide +kernel)).trans <|
  (l_iload (show gPG 237 50 = some (.iload 5) by decide +kernel) rfl).trans <|
  (l_iconst (show gPG 237 52 = some (.iconst 1) by decide +kernel) (c := 1) (by decide +kernel)).trans <|
  (l_aload_n (show gPG 237 53 = some (.aload_n 0) by decide +kernel) rfl jr_ref).trans <|
  (l_gR (show gPG 237 54 = some (.getfield 34) by decide +kernel) (kd := 13) (sl := 6) (tc := 1) (fin := 1) (z := 0) (by decide +kernel) (by decide +kernel) (by decide +kernel)).trans <| bd_cg fun w1 hw1 =>
  (l_iload (show gPG 237 57 = some (.iload 4) by decide +kernel) rfl).trans <|
  (l_iald (show gPG 237 59 = some (.iaload) by decide +kernel) ).trans <| bd_cg fun x2 hx2 =>
  (l_iconst (show gPG 237 60 = some (.iconst 4) by decide +kernel) (c := 4) (by decide +kernel)).trans <|
  (l_cmp (show gPG 237 61 = some (.if_icmp .ne 18) by decide +kernel) (t := 79) (by decide +kernel)).trans <| jm_ne.trans <| ite_cg (
  (l_iload (show gPG 237 64 = some (.iload 8) by decide +kernel) rfl).trans <|
  (l_aload_n (show gPG 237 66 = some (.aload_n 0) by decide +kernel) rfl jr_ref).trans <|
  (l_gR (show gPG 237 67 = some (.getfield 37) by decide +kernel) (kd := 13) (sl := 7) (tc := 1) (fin := 1) (z := 0) (by decide +kernel) (by decide +kernel) (by decide +kernel)).trans <| bd_cg fun w3 hw3 =>
  (l_iload (show gPG 237 70 = some (.iload 4) by decide +kernel) rfl).trans <|
  (l_iald (show gPG 237 72 = some (.iaload) by decide +kernel) ).trans <| bd_cg fun x4 hx4 =>
  l_callS (u := 2) (as := [.int (s0 - s1), .int x4]) (show gPG 237 73 = some (jinvI 2 318) by decide +kernel) (by decide) (cc := 279) (na := 2) (q4 := 0) (z := 12) (rest := [.int 1, .int i5, .int 3, .ref a]) (by decide +kernel) (by decide +kernel)  rfl (show (2 : Nat) ≤ 6 by decide) rfl (csi (csi (csi (csv jr_ref cs0)))) (by decide +kernel) (cai (cai ca0)) (fun e => absurd e (by decide))) (
  l_iload (show gPG 237 79 = some (.iload 8) by decide +kernel) rfl)
theorem b237_76 (d : Nat) (μ : jM) (u0 : Value) (u1 : Value) (u2 : Value) (u3 : Value) (u4 : Value) (u5 : Value) (u6 : Value) (u7 : Value) (u8 : Value) (s0 : Value) (s1 : Int32) (s2 : Int32) (s3 : Int32) (s4 : Int32) (hs0 : jisref s0 = true) : jR d 237 76 [u0, u1, u2, u3, u4, u5, u6, u7, u8] [.int s4, .int s3, .int s2, .int s1, s0] μ = jR d 237 81 [u0, u1, u2, u3, u4, u5, u6, u7, u8] [.int s4, .int s3, .int s2, .int s1, s0] μ :=
  l_goto (show gPG 237 76 = some (.goto 5) by decide +kernel) (t := 81) (by decide +kernel)
theorem b237_81 (d : Nat) (μ : jM) (u0 : Value) (u1 : Value) (u2 : Value) (u3 : Value) (u4 : Value) (u5 : Value) (u6 : Value) (u7 : Value) (u8 : Value) (s0 : Value) (s1 : Int32) (s2 : Int32) (s3 : Int32) (s4 : Int32) (hs0 : jisref s0 = true) : jR (d + 1) 237 81 [u0, u1, u2, u3, u4, u5, u6, u7, u8] [.int s4, .int s3, .int s2, .int s1, s0] μ = (if jrecv μ 13 s0 = true then (jC d 192 [s0, .int s1, .int s2, .int s3, .int s4, .null] μ).bind fun p1 => jR (d + 1) 237 85 [u0, u1, u2, u3, u4, u5, u6, u7, u8] (p1.1.toList ++ []) p1.2 else none) :=
  (l_anull (show gPG 237 81 = some (.aconst_null) by decide +kernel) ).trans <|
  l_callV (u := 1) (v := s0) (as := [.int s1, .int s2, .int s3, .int s4, .null]) (show gPG 237 82 = some (jinvI 1 294) by decide +kernel) (by decide) (cc := 192) (na := 6) (kd := 13) (q4 := 0) (z := 10) (rest := []) (by decide +kernel) (by decide +kernel)  rfl (show (6 : Nat) ≤ 6 by decide) rfl cs0 (by decide +kernel) (cav jr_null (cai (cai (cai (cai (cav hs0 ca0))))))
theorem b237_85 (d : Nat) (μ : jM) (u0 : Value) (u1 : Value) (u2 : Value) (u3 : Value) (u4 : Value) (u5 : Value) (u6 : Value) (u7 : Value) (u8 : Value) : jR d 237 85 [u0, u1, u2, u3, u4, u5, u6, u7, u8] [] μ = jR d 237 213 [u0, u1, u2, u3, u4, u5, u6, u7, u8] [] μ :=
  l_goto (show gPG 237 85 = some (.goto 128) by decide +kernel) (t := 213) (by decide +kernel)
theorem b237_109 (d : Nat) (μ : jM) (u0 : Value) (u1 : Value) (u2 : Value) (u3 : Value) (u4 : Value) (u5 : Value) (u6 : Value) (u7 : Value) (u8 : Value) : jR d 237 109 [u0, u1, u2, u3, u4, u5, u6, u7, u8] [] μ = jR d 237 213 [u0, u1, u2, u3, u4, u5, u6, u7, u8] [] μ :=
  l_goto (show gPG 237 109 = some (.goto 104) by decide +kernel) (t := 213) (by decide +kernel)
theorem b237_133 (d : Nat) (μ : jM) (u0 : Value) (u1 : Value) (u2 : Value) (u3 : Value) (u4 : Value) (u5 : Value) (u6 : Value) (u7 : Value) (u8 : Value) : jR d 237 133 [u0, u1, u2, u3, u4, u5, u6, u7, u8] [] μ = jR d 237 213 [u0, u1, u2, u3, u4, u5, u6, u7, u8] [] μ :=
  l_goto (show gPG 237 133 = some (.goto 80) by decide +kernel) (t := 213) (by decide +kernel)
theorem b237_155 (d : Nat) (μ : jM) (a : Nat) (u1 : Value) (i2 : Int32) (i3 : Int32) (i4 : Int32) (i5 : Int32) (i6 : Int32) (i7 : Int32) (u8 : Value) (s0 : Int32) : jR (d + 1) 237 155 [.ref a, u1, .int i2, .int i3, .int i4, .int i5, .int i6, .int i7, u8] [.int s0] μ = (if s0 = 1 then (if jrecv μ 13 (.ref a) = true then (jC d 230 [.ref a, .int 2, .int i3, .int i4] μ).bind fun p1 => jR (d + 1) 237 167 [.ref a, u1, .int i2, .int i3, .int i4, .int i5, .int i6, .int i7, u8] (p1.1.toList ++ []) p1.2 else none) else jR (d + 1) 237 182 [.ref a, u1, .int i2, .int i3, .int i4, .int i5, .int i6, .int i7, u8] [] μ) :=
  (l_iconst (show gPG 237 155 = some (.iconst 1) by decide +kernel) (c := 1) (by decide +kernel)).trans <|
  (l_cmp (show gPG 237 156 = some (.if_icmp .ne 26) by decide +kernel) (t := 182) (by decide +kernel)).trans <| jm_ne.trans <| ite_cg (
  (l_aload_n (show gPG 237 159 = some (.aload_n 0) by decide +kernel) rfl jr_ref).trans <|
  (l_iconst (show gPG 237 160 = some (.iconst 2) by decide +kernel) (c := 2) (by decide +kernel)).trans <|
  (l_iload_n (show gPG 237 161 = some (.iload_n 3) by decide +kernel) rfl).trans <|
  (l_iload (show gPG 237 162 = some (.iload 4) by decide +kernel) rfl).trans <|
  l_callV (u := 1) (v := .ref a) (as := [.int 2, .int i3, .int i4]) (show gPG 237 164 = some (jinvI 1 408) by decide +kernel) (by decide) (cc := 230) (na := 4) (kd := 13) (q4 := 0) (z := 10) (rest := []) (by decide +kernel) (by decide +kernel)  rfl (show (4 : Nat) ≤ 4 by decide) rfl cs0 (by decide +kernel) (cai (cai (cai (cav jr_ref ca0))))) (
  rfl)
theorem b237_167 (d : Nat) (μ : jM) (a : Nat) (u1 : Value) (i2 : Int32) (i3 : Int32) (i4 : Int32) (i5 : Int32) (i6 : Int32) (i7 : Int32) (u8 : Value) (s0 : Int32) : jR d 237 167 [.ref a, u1, .int i2, .int i3, .int i4, .int i5, .int i6, .int i7, u8] [.int s0] μ = (if s0 = 1 then (if i6 < i7 then jR d 237 183 [.ref a, u1, .int i2, .int i3, .int i4, .int i5, .int i6, .int i7, u8] [.int 1] μ else jR d 237 182 [.ref a, u1, .int i2, .int i3, .int i4, .int i5, .int i6, .int i7, u8] [] μ) else jR d 237 182 [.ref a, u1, .int i2, .int i3, .int i4, .int i5, .int i6, .int i7, u8] [] μ) :=
  (l_iconst (show gPG 237 167 = some (.iconst 1) by decide +kernel) (c := 1) (by decide +kernel)).trans <|
  (l_cmp (show gPG 237 168 = some (.if_icmp .ne 14) by decide +kernel) (t := 182) (by decide +kernel)).trans <| jm_ne.trans <| ite_cg (
  (l_iload (show gPG 237 171 = some (.iload 7) by decide +kernel) rfl).trans <|
  (l_iload (show gPG 237 173 = some (.iload 6) by decide +kernel) rfl).trans <|
  (l_cmp (show gPG 237 175 = some (.if_icmp .le 7) by decide +kernel) (t := 182) (by decide +kernel)).trans <| jm_le.trans <| ite_cg (
  (l_iconst (show gPG 237 178 = some (.iconst 1) by decide +kernel) (c := 1) (by decide +kernel)).trans <|
  l_goto (show gPG 237 179 = some (.goto 4) by decide +kernel) (t := 183) (by decide +kernel)) (
  rfl)) (
  rfl)
theorem b237_182 (d : Nat) (μ : jM) (a : Nat) (u1 : Value) (i2 : Int32) (i3 : Int32) (i4 : Int32) (i5 : Int32) (u6 : Value) (u7 : Value) (u8 : Value) : jR d 237 182 [.ref a, u1, .int i2, .int i3, .int i4, .int i5, u6, u7, u8] [] μ = jR d 237 183 [.ref a, u1, .int i2, .int i3, .int i4, .int i5, u6, u7, u8] [.int 0] μ :=
  l_iconst (show gPG 237 182 = some (.iconst 0) by decide +kernel) (c := 0) (by decide +kernel)
theorem b237_183 (d : Nat) (μ : jM) (a : Nat) (u1 : Value) (i2 : Int32) (i3 : Int32) (i4 : Int32) (i5 : Int32) (u6 : Value) (u7 : Value) (u8 : Value) (s0 : Int32) : jR d 237 183 [.ref a, u1, .int i2, .int i3, .int i4, .int i5, u6, u7, u8] [.int s0] μ = (if s0 = 0 then jR d 237 196 [.ref a, u1, .int i2, .int i3, .int i4, .int i5, u6, u7, .int s0] [.int 1, .ref a] μ else jR d 237 196 [.ref a, u1, .int i2, .int i3, .int i4, .int i5, u6, u7, .int s0] [.int 2, .ref a] μ) :=
  (l_istore (show gPG 237 183 = some (.istore 8) by decide +kernel) (ls := [.ref a, u1, .int i2, .int i3, .int i4, .int i5, u6, u7, u8]) (show (8 : Nat) < 9 by decide) (show _ = ([.ref a, u1, .int i2, .int i3, .int i4, .int i5, u6, u7, .int s0] : List Value) from rfl)).trans <|
  (l_aload_n (show gPG 237 185 = some (.aload_n 0) by decide +kernel) rfl jr_ref).trans <|
  (l_iload (show gPG 237 186 = some (.iload 8) by decide +kernel) rfl).trans <|
  (l_cmp0 (show gPG 237 188 = some (.ifCond .eq 7) by decide +kernel) (t := 195) (by decide +kernel)).trans <| jm_eq.trans <| ite_cg (
  l_iconst (show gPG 237 195 = some (.iconst 1) by decide +kernel) (c := 1) (by decide +kernel)) (
  (l_iconst (show gPG 237 191 = some (.iconst 2) by decide +kernel) (c := 2) (by decide +kernel)).trans <|
  l_goto (show gPG 237 192 = some (.goto 4) by decide +kernel) (t := 196) (by decide +kernel))
theorem b237_196 (d : Nat) (μ : jM) (u0 : Value) (u1 : Value) (i2 : Int32) (i3 : Int32) (i4 : Int32) (i5 : Int32) (u6 : Value) (u7 : Value) (i8 : Int32) (s0 : Value) (s1 : Int32) (hs0 : jisref s0 = true) : jR d 237 196 [u0, u1, .int i2, .int i3, .int i4, .int i5, u6, u7, .int i8] [.int s1, s0] μ = (if i8 = 0 then jR d 237 206 [u0, u1, .int i2, .int i3, .int i4, .int i5, u6, u7, .int i8] [.int i2, .int s1, s0] μ else jR d 237 206 [u0, u1, .int i2, .int i3, .int i4, .int i5, u6, u7, .int i8] [.int i3, .int s1, s0] μ) :=
  (l_iload (show gPG 237 196 = some (.iload 8) by decide +kernel) rfl).trans <|
  (l_cmp0 (show gPG 237 198 = some (.ifCond .eq 7) by decide +kernel) (t := 205) (by decide +kernel)).trans <| jm_eq.trans <| ite_cg (
  l_iload_n (show gPG 237 205 = some (.iload_n 2) by decide +kernel) rfl) (
  (l_iload_n (show gPG 237 201 = some (.iload_n 3) by decide +kernel) rfl).trans <|
  l_goto (show gPG 237 202 = some (.goto 4) by decide +kernel) (t := 206) (by decide +kernel))
theorem b237_206 (d : Nat) (μ : jM) (u0 : Value) (u1 : Value) (u2 : Value) (u3 : Value) (i4 : Int32) (i5 : Int32) (u6 : Value) (u7 : Value) (u8 : Value) (s0 : Value) (s1 : Int32) (s2 : Int32) (hs0 : jisref s0 = true) : jR (d + 1) 237 206 [u0, u1, u2, u3, .int i4, .int i5, u6, u7, u8] [.int s2, .int s1, s0] μ = (if jrecv μ 13 s0 = true then (jC d 236 [s0, .int s1, .int s2, .int i4, .int i5] μ).bind fun p1 => jR (d + 1) 237 213 [u0, u1, u2, u3, .int i4, .int i5, u6, u7, u8] (p1.1.toList ++ []) p1.2 else none) :=
  (l_iload (show gPG 237 206 = some (.iload 4) by decide +kernel) rfl).trans <|
  (l_iload (show gPG 237 208 = some (.iload 5) by decide +kernel) rfl).trans <|
  l_callV (u := 1) (v := s0) (as := [.int s1, .int s2, .int i4, .int i5]) (show gPG 237 210 = some (jinvI 1 429) by decide +kernel) (by decide) (cc := 236) (na := 5) (kd := 13) (q4 := 0) (z := 10) (rest := []) (by decide +kernel) (by decide +kernel)  rfl (show (5 : Nat) ≤ 5 by decide) rfl cs0 (by decide +kernel) (cai (cai (cai (cai (cav hs0 ca0)))))
theorem b237_213 (d : Nat) (μ : jM) (u0 : Value) (u1 : Value) (u2 : Value) (u3 : Value) (u4 : Value) (u5 : Value) (u6 : Value) (u7 : Value) (u8 : Value) : jR d 237 213 [u0, u1, u2, u3, u4, u5, u6, u7, u8] [] μ = some (none, μ) :=
  l_ret (show gPG 237 213 = some (.return_) by decide +kernel) (by decide +kernel)
-- Ref.numberAt
theorem b238_0 (d : Nat) (μ : jM) (a : Nat) (i1 : Int32) (i2 : Int32) (i3 : Int32) : jR (d + 1) 238 0 [.ref a, .int i1, .int i2, .int i3] [] μ = (if jrecv μ 13 (.ref a) = true then (jC d 230 [.ref a, .int i1, .int i2, .int i3] μ).bind fun p1 => jR (d + 1) 238 7 [.ref a, .int i1, .int i2, .int i3] (p1.1.toList ++ []) p1.2 else none) :=
  (l_aload_n (show gPG 238 0 = some (.aload_n 0) by decide +kernel) rfl jr_ref).trans <|
  (l_iload_n (show gPG 238 1 = some (.iload_n 1) by decide +kernel) rfl).trans <|
  (l_iload_n (show gPG 238 2 = some (.iload_n 2) by decide +kernel) rfl).trans <|
  (l_iload_n (show gPG 238 3 = some (.iload_n 3) by decide +kernel) rfl).trans <|
  l_callV (u := 1) (v := .ref a) (as := [.int i1, .int i2, .int i3]) (show gPG 238 4 = some (jinvI 1 408) by decide +kernel) (by decide) (cc := 230) (na := 4) (kd := 13) (q4 := 0) (z := 10) (rest := []) (by decide +kernel) (by decide +kernel)  rfl (show (4 : Nat) ≤ 4 by decide) rfl cs0 (by decide +kernel) (cai (cai (cai (cav jr_ref ca0))))
theorem b238_7 (d : Nat) (μ : jM) (a : Nat) (i1 : Int32) (i2 : Int32) (i3 : Int32) (s0 : Int32) : jR d 238 7 [.ref a, .int i1, .int i2, .int i3] [.int s0] μ = (if s0 = 1 then (jgR μ 13 3 (.ref a)).bind fun w1 => (jaR μ w1 i1).bind fun w2 => (jaI μ w2 ((3 * i2) + i3)).bind fun x3 => jR d 238 27 [.ref a, .int i1, .int i2, .int i3] [.int x3] μ else jR d 238 27 [.ref a, .int i1, .int i2, .int i3] [.int 0] μ) :=
  (l_iconst (show gPG 238 7 = some (.iconst 1) by decide +kernel) (c := 1) (by decide +kernel)).trans <|
  (l_cmp (show gPG 238 8 = some (.if_icmp .ne 18) by decide +kernel) (t := 26) (by decide +kernel)).trans <| jm_ne.trans <| ite_cg (
  (l_aload_n (show gPG 238 11 = some (.aload_n 0) by decide +kernel) rfl jr_ref).trans <|
  (l_gR (show gPG 238 12 = some (.getfield 23) by decide +kernel) (kd := 13) (sl := 3) (tc := 1) (fin := 1) (z := 0) (by decide +kernel) (by decide +kernel) (by decide +kernel)).trans <| bd_cg fun w1 hw1 =>
  (l_iload_n (show gPG 238 15 = some (.iload_n 1) by decide +kernel) rfl).trans <|
  (l_aald (show gPG 238 16 = some (.aaload) by decide +kernel) ).trans <| bd_cg fun w2 hw2 =>
  (l_iconst (show gPG 238 17 = some (.iconst 3) by decide +kernel) (c := 3) (by decide +kernel)).trans <|
  (l_iload_n (show gPG 238 18 = some (.iload_n 2) by decide +kernel) rfl).trans <|
  (l_imul (show gPG 238 19 = some (.imul) by decide +kernel) ).trans <|
  (l_iload_n (show gPG 238 20 = some (.iload_n 3) by decide +kernel) rfl).trans <|
  (l_iadd (show gPG 238 21 = some (.iadd) by decide +kernel) ).trans <|
  (l_iald (show gPG 238 22 = some (.iaload) by decide +kernel) ).trans <| bd_cg fun x3 hx3 =>
  l_goto (show gPG 238 23 = some (.goto 4) by decide +kernel) (t := 27) (by decide +kernel)) (
  l_iconst (show gPG 238 26 = some (.iconst 0) by decide +kernel) (c := 0) (by decide +kernel))
theorem b238_27 (d : Nat) (μ : jM) (u0 : Value) (u1 : Value) (u2 : Value) (u3 : Value) (s0 : Int32) : jR d 238 27 [u0, u1, u2, u3] [.int s0] μ = some (some (.int s0), μ) :=
  l_iret1 (show gPG 238 27 = some (.ireturn) by decide +kernel) (by decide +kernel)
-- Ref.adds
theorem b239_0 (d : Nat) (μ : jM) (a : Nat) (i1 : Int32) (i2 : Int32) (i3 : Int32) (i4 : Int32) : jR d 239 0 [.ref a, .int i1, .int i2, .int i3, .int i4] [] μ = (jgR μ 13 6 (.ref a)).bind fun w1 => (jaI μ w1 i4).bind fun x2 => (if x2 = 3 then jR d 239 22 [.ref a, .int i1, .int i2, .int i3, .int i4] [] μ else (jgR μ 13 6 (.ref a)).bind fun w3 => (jaI μ w3 i4).bind fun x4 => (if x4 = 4 then jR d 239 22 [.ref a, .int i1, .int i2, .int i3, .int i4] [] μ else jR d 239 62 [.ref a, .int i1, .int i2, .int i3, .int i4] [] μ)) :=
  (l_aload_n (show gPG 239 0 = some (.aload_n 0) by decide +kernel) rfl jr_ref).trans <|
  (l_gR (show gPG 239 1 = some (.getfield 34) by decide +kernel) (kd := 13) (sl := 6) (tc := 1) (fin := 1) (z := 0) (by decide +kernel) (by decide +kernel) (by decide +kernel)).trans <| bd_cg fun w1 hw1 =>
  (l_iload (show gPG 239 4 = some (.iload 4) by decide +kernel) rfl).trans <|
  (l_iald (show gPG 239 6 = some (.iaload) by decide +kernel) ).trans <| bd_cg fun x2 hx2 =>
  (l_iconst (show gPG 239 7 = some (.iconst 3) by decide +kernel) (c := 3) (by decide +kernel)).trans <|
  (l_cmp (show gPG 239 8 = some (.if_icmp .eq 14) by decide +kernel) (t := 22) (by decide +kernel)).trans <| jm_eq.trans <| ite_cg (
  rfl) (
  (l_aload_n (show gPG 239 11 = some (.aload_n 0) by decide +kernel) rfl jr_ref).trans <|
  (l_gR (show gPG 239 12 = some (.getfield 34) by decide +kernel) (kd := 13) (sl := 6) (tc := 1) (fin := 1) (z := 0) (by decide +kernel) (by decide +kernel) (by decide +kernel)).trans <| bd_cg fun w3 hw3 =>
  (l_iload (show gPG 239 15 = some (.iload 4) by decide +kernel) rfl).trans <|
  (l_iald (show gPG 239 17 = some (.iaload) by decide +kernel) ).trans <| bd_cg fun x4 hx4 =>
  (l_iconst (show gPG 239 18 = some (.iconst 4) by decide +kernel) (c := 4) (by decide +kernel)).trans <|
  (l_cmp (show gPG 239 19 = some (.if_icmp .ne 43) by decide +kernel) (t := 62) (by decide +kernel)).trans <| jm_ne.trans <| ite_cg (
  rfl) (
  rfl))
theorem b239_22 (d : Nat) (μ : jM) (a : Nat) (i1 : Int32) (i2 : Int32) (i3 : Int32) (i4 : Int32) : jR (d + 1) 239 22 [.ref a, .int i1, .int i2, .int i3, .int i4] [] μ = (if jrecv μ 13 (.ref a) = true then (jC d 230 [.ref a, .int 1, .int i2, .int i4] μ).bind fun p1 => jR (d + 1) 239 30 [.ref a, .int i1, .int i2, .int i3, .int i4] (p1.1.toList ++ []) p1.2 else none) :=
  (l_aload_n (show gPG 239 22 = some (.aload_n 0) by decide +kernel) rfl jr_ref).trans <|
  (l_iconst (show gPG 239 23 = some (.iconst 1) by decide +kernel) (c := 1) (by decide +kernel)).trans <|
  (l_iload_n (show gPG 239 24 = some (.iload_n 2) by decide +kernel) rfl).trans <|
  (l_iload (show gPG 239 25 = some (.iload 4) by decide +kernel) rfl).trans <|
  l_callV (u := 1) (v := .ref a) (as := [.int 1, .int i2, .int i4]) (show gPG 239 27 = some (jinvI 1 408) by decide +kernel) (by decide) (cc := 230) (na := 4) (kd := 13) (q4 := 0) (z := 10) (rest := []) (by decide +kernel) (by decide +kernel)  rfl (show (4 : Nat) ≤ 4 by decide) rfl cs0 (by decide +kernel) (cai (cai (cai (cav jr_ref ca0))))
theorem b239_30 (d : Nat) (μ : jM) (a : Nat) (i1 : Int32) (u2 : Value) (i3 : Int32) (i4 : Int32) (s0 : Int32) : jR (d + 1) 239 30 [.ref a, .int i1, u2, .int i3, .int i4] [.int s0] μ = (if s0 = 1 then (if jrecv μ 13 (.ref a) = true then (jC d 230 [.ref a, .int 2, .int i3, .int i4] μ).bind fun p1 => jR (d + 1) 239 42 [.ref a, .int i1, u2, .int i3, .int i4] (p1.1.toList ++ []) p1.2 else none) else jR (d + 1) 239 62 [.ref a, .int i1, u2, .int i3, .int i4] [] μ) :=
  (l_iconst (show gPG 239 30 = some (.iconst 1) by decide +kernel) (c := 1) (by decide +kernel)).trans <|
  (l_cmp (show gPG 239 31 = some (.if_icmp .ne 31) by decide +kernel) (t := 62) (by decide +kernel)).trans <| jm_ne.trans <| ite_cg (
  (l_aload_n (show gPG 239 34 = some (.aload_n 0) by decide +kernel) rfl jr_ref).trans <|
  (l_iconst (show gPG 239 35 = some (.iconst 2) by decide +kernel) (c := 2) (by decide +kernel)).trans <|
  (l_iload_n (show gPG 239 36 = some (.iload_n 3) by decide +kernel) rfl).trans <|
  (l_iload (show gPG 239 37 = some (.iload 4) by decide +kernel) rfl).trans <|
  l_callV (u := 1) (v := .ref a) (as := [.int 2, .int i3, .int i4]) (show gPG 239 39 = some (jinvI 1 408) by decide +kernel) (by decide) (cc := 230) (na := 4) (kd := 13) (q4 := 0) (z := 10) (rest := []) (by decide +kernel) (by decide +kernel)  rfl (show (4 : Nat) ≤ 4 by decide) rfl cs0 (by decide +kernel) (cai (cai (cai (cav jr_ref ca0))))) (
  rfl)
theorem b239_42 (d : Nat) (μ : jM) (a : Nat) (i1 : Int32) (u2 : Value) (u3 : Value) (i4 : Int32) (s0 : Int32) : jR (d + 1) 239 42 [.ref a, .int i1, u2, u3, .int i4] [.int s0] μ = (if s0 = 1 then (if jrecv μ 13 (.ref a) = true then (jC d 230 [.ref a, .int 0, .int i1, .int i4] μ).bind fun p1 => jR (d + 1) 239 54 [.ref a, .int i1, u2, u3, .int i4] (p1.1.toList ++ []) p1.2 else none) else jR (d + 1) 239 62 [.ref a, .int i1, u2, u3, .int i4] [] μ) :=
  (l_iconst (show gPG 239 42 = some (.iconst 1) by decide +kernel) (c := 1) (by decide +kernel)).trans <|
  (l_cmp (show gPG 239 43 = some (.if_icmp .ne 19) by decide +kernel) (t := 62) (by decide +kernel)).trans <| jm_ne.trans <| ite_cg (
  (l_aload_n (show gPG 239 46 = some (.aload_n 0) by decide +kernel) rfl jr_ref).trans <|
  (l_iconst (show gPG 239 47 = some (.iconst 0) by decide +kernel) (c := 0) (by decide +kernel)).trans <|
  (l_iload_n (show gPG 239 48 = some (.iload_n 1) by decide +kernel) rfl).trans <|
  (l_iload (show gPG 239 49 = some (.iload 4) by decide +kernel) rfl).trans <|
  l_callV (u := 1) (v := .ref a) (as := [.int 0, .int i1, .int i4]) (show gPG 239 51 = some (jinvI 1 408) by decide +kernel) (by decide) (cc := 230) (na := 4) (kd := 13) (q4 := 0) (z := 10) (rest := []) (by decide +kernel) (by decide +kernel)  rfl (show (4 : Nat) ≤ 4 by decide) rfl cs0 (by decide +kernel) (cai (cai (cai (cav jr_ref ca0))))) (
  rfl)
theorem b239_54 (d : Nat) (μ : jM) (u0 : Value) (u1 : Value) (u2 : Value) (u3 : Value) (u4 : Value) (s0 : Int32) : jR d 239 54 [u0, u1, u2, u3, u4] [.int s0] μ = (if s0 = 2 then jR d 239 62 [u0, u1, u2, u3, u4] [] μ else jR d 239 63 [u0, u1, u2, u3, u4] [.int 1] μ) :=
  (l_iconst (show gPG 239 54 = some (.iconst 2) by decide +kernel) (c := 2) (by decide +kernel)).trans <|
  (l_cmp (show gPG 239 55 = some (.if_icmp .eq 7) by decide +kernel) (t := 62) (by decide +kernel)).trans <| jm_eq.trans <| ite_cg (
  rfl) (
  (l_iconst (show gPG 239 58 = some (.iconst 1) by decide +kernel) (c := 1) (by decide +kernel)).trans <|
  l_goto (show gPG 239 59 = some (.goto 4) by decide +kernel) (t := 63) (by decide +kernel))
theorem b239_62 (d : Nat) (μ : jM) (u0 : Value) (u1 : Value) (u2 : Value) (u3 : Value) (u4 : Value) : jR d 239 62 [u0, u1, u2, u3, u4] [] μ = jR d 239 63 [u0, u1, u2, u3, u4] [.int 0] μ :=
  l_iconst (show gPG 239 62 = some (.iconst 0) by decide +kernel) (c := 0) (by decide +kernel)
theorem b239_63 (d : Nat) (μ : jM) (u0 : Value) (u1 : Value) (u2 : Value) (u3 : Value) (u4 : Value) (s0 : Int32) : jR d 239 63 [u0, u1, u2, u3, u4] [.int s0] μ = (if jrf 4 s0 = true then some (some (.int s0), μ) else none) :=
  l_iret (show gPG 239 63 = some (.ireturn) by decide +kernel) (rc := 4) (by decide +kernel)
-- Ref.clash/III
theorem b240_0 (d : Nat) (μ : jM) (a : Nat) (i1 : Int32) (i2 : Int32) (i3 : Int32) : jR d 240 0 [.ref a, .int i1, .int i2, .int i3] [] μ = (jgR μ 13 37 (.ref a)).bind fun w1 => (jgI μ 13 35 (.ref a)).bind fun x2 => (jsI μ w1 x2 i1).bind fun m3 => (jgR m3 13 38 (.ref a)).bind fun w4 => (jgI m3 13 35 (.ref a)).bind fun x5 => (jsI m3 w4 x5 i2).bind fun m6 => (jgR m6 13 39 (.ref a)).bind fun w7 => (jgI m6 13 35 (.ref a)).bind fun x8 => (jsI m6 w7 x8 i3).bind fun m9 => (jgR m9 13 40 (.ref a)).bind fun w10 => (jgI m9 13 35 (.ref a)).bind fun x11 => (jsB m9 w10 x11 0).bind fun m12 => (jgI m12 13 35 (.ref a)).bind fun x13 => (jpI m12 13 35 0 (.ref a) (x13 + 1)).bind fun m14 => some (none, m14) :=
  (l_aload_n (show gPG 240 0 = some (.aload_n 0) by decide +kernel) rfl jr_ref).trans <|
  (l_gR (show gPG 240 1 = some (.getfield 79) by decide +kernel) (kd := 13) (sl := 37) (tc := 1) (fin := 1) (z := 0) (by decide +kernel) (by decide +kernel) (by decide +kernel)).trans <| bd_cg fun w1 hw1 =>
  (l_aload_n (show gPG 240 4 = some (.aload_n 0) by decide +kernel) rfl jr_ref).trans <|
  (l_gI (show gPG 240 5 = some (.getfield 163) by decide +kernel) (kd := 13) (sl := 35) (tc := 0) (fin := 0) (z := 0) (by decide +kernel) (by decide +kernel) (by decide +kernel)).trans <| bd_cg fun x2 hx2 =>
  (l_iload_n (show gPG 240 8 = some (.iload_n 1) by decide +kernel) rfl).trans <|
  (l_iast (show gPG 240 9 = some (.iastore) by decide +kernel) ).trans <| bd_cg fun m3 hm3 =>
  (l_aload_n (show gPG 240 10 = some (.aload_n 0) by decide +kernel) rfl jr_ref).trans <|
  (l_gR (show gPG 240 11 = some (.getfield 82) by decide +kernel) (kd := 13) (sl := 38) (tc := 1) (fin := 1) (z := 0) (by decide +kernel) (by decide +kernel) (by decide +kernel)).trans <| bd_cg fun w4 hw4 =>
  (l_aload_n (show gPG 240 14 = some (.aload_n 0) by decide +kernel) rfl jr_ref).trans <|
  (l_gI (show gPG 240 15 = some (.getfield 163) by decide +kernel) (kd := 13) (sl := 35) (tc := 0) (fin := 0) (z := 0) (by decide +kernel) (by decide +kernel) (by decide +kernel)).trans <| bd_cg fun x5 hx5 =>
  (l_iload_n (show gPG 240 18 = some (.iload_n 2) by decide +kernel) rfl).trans <|
  (l_iast (show gPG 240 19 = some (.iastore) by decide +kernel) ).trans <| bd_cg fun m6 hm6 =>
  (l_aload_n (show gPG 240 20 = some (.aload_n 0) by decide +kernel) rfl jr_ref).trans <|
  (l_gR (show gPG 240 21 = some (.getfield 85) by decide +kernel) (kd := 13) (sl := 39) (tc := 1) (fin := 1) (z := 0) (by decide +kernel) (by decide +kernel) (by decide +kernel)).trans <| bd_cg fun w7 hw7 =>
  (l_aload_n (show gPG 240 24 = some (.aload_n 0) by decide +kernel) rfl jr_ref).trans <|
  (l_gI (show gPG 240 25 = some (.getfield 163) by decide +kernel) (kd := 13) (sl := 35) (tc := 0) (fin := 0) (z := 0) (by decide +kernel) (by decide +kernel) (by decide +kernel)).trans <| bd_cg fun x8 hx8 =>
  (l_iload_n (show gPG 240 28 = some (.iload_n 3) by decide +kernel) rfl).trans <|
  (l_iast (show gPG 240 29 = some (.iastore) by decide +kernel) ).trans <| bd_cg fun m9 hm9 =>
  (l_aload_n (show gPG 240 30 = some (.aload_n 0) by decide +kernel) rfl jr_ref).trans <|
  (l_gR (show gPG 240 31 = some (.getfield 88) by decide +kernel) (kd := 13) (sl := 40) (tc := 1) (fin := 1) (z := 0) (by decide +kernel) (by decide +kernel) (by decide +kernel)).trans <| bd_cg fun w10 hw10 =>
  (l_aload_n (show gPG 240 34 = some (.aload_n 0) by decide +kernel) rfl jr_ref).trans <|
  (l_gI (show gPG 240 35 = some (.getfield 163) by decide +kernel) (kd := 13) (sl := 35) (tc := 0) (fin := 0) (z := 0) (by decide +kernel) (by decide +kernel) (by decide +kernel)).trans <| bd_cg fun x11 hx11 =>
  (l_iconst (show gPG 240 38 = some (.iconst 0) by decide +kernel) (c := 0) (by decide +kernel)).trans <|
  (l_bast (show gPG 240 39 = some (.bastore) by decide +kernel) ).trans <| bd_cg fun m12 hm12 =>
  (l_aload_n (show gPG 240 40 = some (.aload_n 0) by decide +kernel) rfl jr_ref).trans <|
  (l_dup (show gPG 240 41 = some (.dup) by decide +kernel) (jr_cat1 jr_ref)).trans <|
  (l_gI (show gPG 240 42 = some (.getfield 163) by decide +kernel) (kd := 13) (sl := 35) (tc := 0) (fin := 0) (z := 0) (by decide +kernel) (by decide +kernel) (by decide +kernel)).trans <| bd_cg fun x13 hx13 =>
  (l_iconst (show gPG 240 45 = some (.iconst 1) by decide +kernel) (c := 1) (by decide +kernel)).trans <|
  (l_iadd (show gPG 240 46 = some (.iadd) by decide +kernel) ).trans <|
  (l_pI (show gPG 240 47 = some (.putfield 163) by decide +kernel) (kd := 13) (sl := 35) (tc := 0) (fin := 0) (z := 0) (by decide +kernel) (by decide +kernel) (by decide +kernel)).trans <| bd_cg fun m14 hm14 =>
  l_ret (show gPG 240 50 = some (.return_) by decide +kernel) (by decide +kernel)
-- Ref.clash/II
theorem b241_0 (d : Nat) (μ : jM) (a : Nat) (i1 : Int32) (i2 : Int32) : jR (d + 1) 241 0 [.ref a, .int i1, .int i2] [] μ = (jC d 165 [.int i2, .int 0, .int 3] μ).bind fun p1 => jR (d + 1) 241 6 [.ref a, .int i1, .int i2] (p1.1.toList ++ []) p1.2 :=
  (l_iload_n (show gPG 241 0 = some (.iload_n 2) by decide +kernel) rfl).trans <|
  (l_iconst (show gPG 241 1 = some (.iconst 0) by decide +kernel) (c := 0) (by decide +kernel)).trans <|
  (l_iconst (show gPG 241 2 = some (.iconst 3) by decide +kernel) (c := 3) (by decide +kernel)).trans <|
  l_callS (u := 2) (as := [.int i2, .int 0, .int 3]) (show gPG 241 3 = some (jinvI 2 125) by decide +kernel) (by decide) (cc := 165) (na := 3) (q4 := 0) (z := 12) (rest := []) (by decide +kernel) (by decide +kernel)  rfl (show (3 : Nat) ≤ 3 by decide) rfl cs0 (by decide +kernel) (cai (cai (cai ca0))) (fun e => absurd e (by decide))
theorem b241_6 (d : Nat) (μ : jM) (a : Nat) (i1 : Int32) (i2 : Int32) (s0 : Int32) : jR (d + 1) 241 6 [.ref a, .int i1, .int i2] [.int s0] μ = (if s0 = 0 then some (some (.int (-2)), μ) else (jgI μ 13 35 (.ref a)).bind fun x1 => (jC d 165 [.int i1, .int 0, .int (x1 - 1)] μ).bind fun p2 => jR (d + 1) 241 23 [.ref a, .int i1, .int i2] (p2.1.toList ++ []) p2.2) :=
  (l_cmp0 (show gPG 241 6 = some (.ifCond .ne 6) by decide +kernel) (t := 12) (by decide +kernel)).trans <| jm_ne.trans <| ite_cg (
  (l_bipush (show gPG 241 9 = some (.bipush (-2)) by decide +kernel) (c := (-2)) (by decide +kernel)).trans <|
  l_iret1 (show gPG 241 11 = some (.ireturn) by decide +kernel) (by decide +kernel)) (
  (l_iload_n (show gPG 241 12 = some (.iload_n 1) by decide +kernel) rfl).trans <|
  (l_iconst (show gPG 241 13 = some (.iconst 0) by decide +kernel) (c := 0) (by decide +kernel)).trans <|
  (l_aload_n (show gPG 241 14 = some (.aload_n 0) by decide +kernel) rfl jr_ref).trans <|
  (l_gI (show gPG 241 15 = some (.getfield 163) by decide +kernel) (kd := 13) (sl := 35) (tc := 0) (fin := 0) (z := 0) (by decide +kernel) (by decide +kernel) (by decide +kernel)).trans <| bd_cg fun x1 hx1 =>
  (l_iconst (show gPG 241 18 = some (.iconst 1) by decide +kernel) (c := 1) (by decide +kernel)).trans <|
  (l_isub (show gPG 241 19 = some (.isub) by decide +kernel) ).trans <|
  l_callS (u := 2) (as := [.int i1, .int 0, .int (x1 - 1)]) (show gPG 241 20 = some (jinvI 2 125) by decide +kernel) (by decide) (cc := 165) (na := 3) (q4 := 0) (z := 12) (rest := []) (by decide +kernel) (by decide +kernel)  rfl (show (3 : Nat) ≤ 3 by decide) rfl cs0 (by decide +kernel) (cai (cai (cai ca0))) (fun e => absurd e (by decide)))
theorem b241_23 (d : Nat) (μ : jM) (a : Nat) (i1 : Int32) (i2 : Int32) (s0 : Int32) : jR d 241 23 [.ref a, .int i1, .int i2] [.int s0] μ = (if s0 = 0 then some (some (.int (-12)), μ) else (if i2 = 0 then (jgR μ 13 37 (.ref a)).bind fun w7 => (jaI μ w7 i1).bind fun x8 => jR d 241 84 [.ref a, .int i1, .int i2] [.int x8] μ else (if i2 = 1 then (jgR μ 13 38 (.ref a)).bind fun w5 => (jaI μ w5 i1).bind fun x6 => jR d 241 84 [.ref a, .int i1, .int i2] [.int x6] μ else (if i2 = 2 then (jgR μ 13 39 (.ref a)).bind fun w3 => (jaI μ w3 i1).bind fun x4 => jR d 241 84 [.ref a, .int i1, .int i2] [.int x4] μ else (jgR μ 13 40 (.ref a)).bind fun w1 => (jaB μ w1 i1).bind fun x2 => (if x2 = 0 then jR d 241 84 [.ref a, .int i1, .int i2] [.int 0] μ else jR d 241 84 [.ref a, .int i1, .int i2] [.int 1] μ))))) :=
  (l_cmp0 (show gPG 241 23 = some (.ifCond .ne 6) by decide +kernel) (t := 29) (by decide +kernel)).trans <| jm_ne.trans <| ite_cg (
  (l_bipush (show gPG 241 26 = some (.bipush (-12)) by decide +kernel) (c := (-12)) (by decide +kernel)).trans <|
  l_iret1 (show gPG 241 28 = some (.ireturn) by decide +kernel) (by decide +kernel)) (
  (l_iload_n (show gPG 241 29 = some (.iload_n 2) by decide +kernel) rfl).trans <|
  (l_cmp0 (show gPG 241 30 = some (.ifCond .ne 12) by decide +kernel) (t := 42) (by decide +kernel)).trans <| jm_ne.trans <| ite_cg (
  (l_aload_n (show gPG 241 33 = some (.aload_n 0) by decide +kernel) rfl jr_ref).trans <|
  (l_gR (show gPG 241 34 = some (.getfield 79) by decide +kernel) (kd := 13) (sl := 37) (tc := 1) (fin := 1) (z := 0) (by decide +kernel) (by decide +kernel) (by decide +kernel)).trans <| bd_cg fun w7 hw7 =>
  (l_iload_n (show gPG 241 37 = some (.iload_n 1) by decide +kernel) rfl).trans <|
  (l_iald (show gPG 241 38 = some (.iaload) by decide +kernel) ).trans <| bd_cg fun x8 hx8 =>
  l_goto (show gPG 241 39 = some (.goto 45) by decide +kernel) (t := 84) (by decide +kernel)) (
  (l_iload_n (show gPG 241 42 = some (.iload_n 2) by decide +kernel) rfl).trans <|
  (l_iconst (show gPG 241 43 = some (.iconst 1) by decide +kernel) (c := 1) (by decide +kernel)).trans <|
  (l_cmp (show gPG 241 44 = some (.if_icmp .ne 12) by decide +kernel) (t := 56) (by decide +kernel)).trans <| jm_ne.trans <| ite_cg (
  (l_aload_n (show gPG 241 47 = some (.aload_n 0) by decide +kernel) rfl jr_ref).trans <|
  (l_gR (show gPG 241 48 = some (.getfield 82) by decide +kernel) (kd := 13) (sl := 38) (tc := 1) (fin := 1) (z := 0) (by decide +kernel) (by decide +kernel) (by decide +kernel)).trans <| bd_cg fun w5 hw5 =>
  (l_iload_n (show gPG 241 51 = some (.iload_n 1) by decide +kernel) rfl).trans <|
  (l_iald (show gPG 241 52 = some (.iaload) by decide +kernel) ).trans <| bd_cg fun x6 hx6 =>
  l_goto (show gPG 241 53 = some (.goto 31) by decide +kernel) (t := 84) (by decide +kernel)) (
  (l_iload_n (show gPG 241 56 = some (.iload_n 2) by decide +kernel) rfl).trans <|
  (l_iconst (show gPG 241 57 = some (.iconst 2) by decide +kernel) (c := 2) (by decide +kernel)).trans <|
  (l_cmp (show gPG 241 58 = some (.if_icmp .ne 12) by decide +kernel) (t := 70) (by decide +kernel)).trans <| jm_ne.trans <| ite_cg (
  (l_aload_n (show gPG 241 61 = some (.aload_n 0) by decide +kernel) rfl jr_ref).trans <|
  (l_gR (show gPG 241 62 = some (.getfield 85) by decide +kernel) (kd := 13) (sl := 39) (tc := 1) (fin := 1) (z := 0) (by decide +kernel) (by decide +kernel) (by decide +kernel)).trans <| bd_cg fun w3 hw3 =>
  (l_iload_n (show gPG 241 65 = some (.iload_n 1) by decide +kernel) rfl).trans <|
  (l_iald (show gPG 241 66 = some (.iaload) by decide +kernel) ).trans <| bd_cg fun x4 hx4 =>
  l_goto (show gPG 241 67 = some (.goto 17) by decide +kernel) (t := 84) (by decide +kernel)) (
  (l_aload_n (show gPG 241 70 = some (.aload_n 0) by decide +kernel) rfl jr_ref).trans <|
  (l_gR (show gPG 241 71 = some (.getfield 88) by decide +kernel) (kd := 13) (sl := 40) (tc := 1) (fin := 1) (z := 0) (by decide +kernel) (by decide +kernel) (by decide +kernel)).trans <| bd_cg fun w1 hw1 =>
  (l_iload_n (show gPG 241 74 = some (.iload_n 1) by decide +kernel) rfl).trans <|
  (l_bald (show gPG 241 75 = some (.baload) by decide +kernel) ).trans <| bd_cg fun x2 hx2 =>
  (l_cmp0 (show gPG 241 76 = some (.ifCond .eq 7) by decide +kernel) (t := 83) (by decide +kernel)).trans <| jm_eq.trans <| ite_cg (
  l_iconst (show gPG 241 83 = some (.iconst 0) by decide +kernel) (c := 0) (by decide +kernel)) (
  (l_iconst (show gPG 241 79 = some (.iconst 1) by decide +kernel) (c := 1) (by decide +kernel)).trans <|
  l_goto (show gPG 241 80 = some (.goto 4) by decide +kernel) (t := 84) (by decide +kernel))))))
theorem b241_84 (d : Nat) (μ : jM) (u0 : Value) (u1 : Value) (u2 : Value) (s0 : Int32) : jR d 241 84 [u0, u1, u2] [.int s0] μ = some (some (.int s0), μ) :=
  l_iret1 (show gPG 241 84 = some (.ireturn) by decide +kernel) (by decide +kernel)
-- Ref.settle
theorem b242_0 (d : Nat) (μ : jM) (a : Nat) (i1 : Int32) (i2 : Int32) : jR (d + 1) 242 0 [.ref a, .int i1, .int i2, .retAddr 0, .retAddr 0, .retAddr 0, .retAddr 0] [] μ = (jC d 165 [.int i2, .int 0, .int 2] μ).bind fun p1 => jR (d + 1) 242 6 [.ref a, .int i1, .int i2, .retAddr 0, .retAddr 0, .retAddr 0, .retAddr 0] (p1.1.toList ++ []) p1.2 :=
  (l_iload_n (show gPG 242 0 = some (.iload_n 2) by decide +kernel) rfl).trans <|
  (l_iconst (show gPG 242 1 = some (.iconst 0) by decide +kernel) (c := 0) (by decide +kernel)).trans <|
  (l_iconst (show gPG 242 2 = some (.iconst 2) by decide +kernel) (c := 2) (by decide +kernel)).trans <|
  l_callS (u := 2) (as := [.int i2, .int 0, .int 2]) (show gPG 242 3 = some (jinvI 2 125) by decide +kernel) (by decide) (cc := 165) (na := 3) (q4 := 0) (z := 12) (rest := []) (by decide +kernel) (by decide +kernel)  rfl (show (3 : Nat) ≤ 3 by decide) rfl cs0 (by decide +kernel) (cai (cai (cai ca0))) (fun e => absurd e (by decide))
theorem b242_6 (d : Nat) (μ : jM) (a : Nat) (i1 : Int32) (i2 : Int32) (u3 : Value) (u4 : Value) (u5 : Value) (u6 : Value) (s0 : Int32) : jR (d + 1) 242 6 [.ref a, .int i1, .int i2, u3, u4, u5, u6] [.int s0] μ = (if s0 = 0 then some (some (.int (-2)), μ) else (jgI μ 13 35 (.ref a)).bind fun x1 => (jC d 165 [.int i1, .int 0, .int (x1 - 1)] μ).bind fun p2 => jR (d + 1) 242 23 [.ref a, .int i1, .int i2, u3, u4, u5, u6] (p2.1.toList ++ []) p2.2) :=
  (l_cmp0 (show gPG 242 6 = some (.ifCond .ne 6) by decide +kernel) (t := 12) (by decide +kernel)).trans <| jm_ne.trans <| ite_cg (
  (l_bipush (show gPG 242 9 = some (.bipush (-2)) by decide +kernel) (c := (-2)) (by decide +kernel)).trans <|
  l_iret1 (show gPG 242 11 = some (.ireturn) by decide +kernel) (by decide +kernel)) (
  (l_iload_n (show gPG 242 12 = some (.iload_n 1) by decide +kernel) rfl).trans <|
  (l_iconst (show gPG 242 13 = some (.iconst 0) by decide +kernel) (c := 0) (by decide +kernel)).trans <|
  (l_aload_n (show gPG 242 14 = some (.aload_n 0) by decide +kernel) rfl jr_ref).trans <|
  (l_gI (show gPG 242 15 = some (.getfield 163) by decide +kernel) (kd := 13) (sl := 35) (tc := 0) (fin := 0) (z := 0) (by decide +kernel) (by decide +kernel) (by decide +kernel)).trans <| bd_cg fun x1 hx1 =>
  (l_iconst (show gPG 242 18 = some (.iconst 1) by decide +kernel) (c := 1) (by decide +kernel)).trans <|
  (l_isub (show gPG 242 19 = some (.isub) by decide +kernel) ).trans <|
  l_callS (u := 2) (as := [.int i1, .int 0, .int (x1 - 1)]) (show gPG 242 20 = some (jinvI 2 125) by decide +kernel) (by decide) (cc := 165) (na := 3) (q4 := 0) (z := 12) (rest := []) (by decide +kernel) (by decide +kernel)  rfl (show (3 : Nat) ≤ 3 by decide) rfl cs0 (by decide +kernel) (cai (cai (cai ca0))) (fun e => absurd e (by decide)))
theorem b242_23 (d : Nat) (μ : jM) (a : Nat) (i1 : Int32) (i2 : Int32) (u3 : Value) (u4 : Value) (u5 : Value) (u6 : Value) (s0 : Int32) : jR d 242 23 [.ref a, .int i1, .int i2, u3, u4, u5, u6] [.int s0] μ = (if s0 = 0 then some (some (.int (-12)), μ) else (jgR μ 13 40 (.ref a)).bind fun w1 => (jaB μ w1 i1).bind fun x2 => (if x2 = 0 then (if i2 = 2 then jR d 242 53 [.ref a, .int i1, .int i2, u3, u4, u5, u6] [.int 0] μ else jR d 242 53 [.ref a, .int i1, .int i2, u3, u4, u5, u6] [.int (i2 + 1)] μ) else some (some (.int (-3)), μ))) :=
  (l_cmp0 (show gPG 242 23 = some (.ifCond .ne 6) by decide +kernel) (t := 29) (by decide +kernel)).trans <| jm_ne.trans <| ite_cg (
  (l_bipush (show gPG 242 26 = some (.bipush (-12)) by decide +kernel) (c := (-12)) (by decide +kernel)).trans <|
  l_iret1 (show gPG 242 28 = some (.ireturn) by decide +kernel) (by decide +kernel)) (
  (l_aload_n (show gPG 242 29 = some (.aload_n 0) by decide +kernel) rfl jr_ref).trans <|
  (l_gR (show gPG 242 30 = some (.getfield 88) by decide +kernel) (kd := 13) (sl := 40) (tc := 1) (fin := 1) (z := 0) (by decide +kernel) (by decide +kernel) (by decide +kernel)).trans <| bd_cg fun w1 hw1 =>
  (l_iload_n (show gPG 242 33 = some (.iload_n 1) by decide +kernel) rfl).trans <|
  (l_bald (show gPG 242 34 = some (.baload) by decide +kernel) ).trans <| bd_cg fun x2 hx2 =>
  (l_cmp0 (show gPG 242 35 = some (.ifCond .eq 6) by decide +kernel) (t := 41) (by decide +kernel)).trans <| jm_eq.trans <| ite_cg (
  (l_iload_n (show gPG 242 41 = some (.iload_n 2) by decide +kernel) rfl).trans <|
  (l_iconst (show gPG 242 42 = some (.iconst 2) by decide +kernel) (c := 2) (by decide +kernel)).trans <|
  (l_cmp (show gPG 242 43 = some (.if_icmp .ne 7) by decide +kernel) (t := 50) (by decide +kernel)).trans <| jm_ne.trans <| ite_cg (
  (l_iconst (show gPG 242 46 = some (.iconst 0) by decide +kernel) (c := 0) (by decide +kernel)).trans <|
  l_goto (show gPG 242 47 = some (.goto 6) by decide +kernel) (t := 53) (by decide +kernel)) (
  (l_iload_n (show gPG 242 50 = some (.iload_n 2) by decide +kernel) rfl).trans <|
  (l_iconst (show gPG 242 51 = some (.iconst 1) by decide +kernel) (c := 1) (by decide +kernel)).trans <|
  l_iadd (show gPG 242 52 = some (.iadd) by decide +kernel) )) (
  (l_bipush (show gPG 242 38 = some (.bipush (-3)) by decide +kernel) (c := (-3)) (by decide +kernel)).trans <|
  l_iret1 (show gPG 242 40 = some (.ireturn) by decide +kernel) (by decide +kernel)))
theorem b242_53 (d : Nat) (μ : jM) (a : Nat) (i1 : Int32) (u2 : Value) (u3 : Value) (u4 : Value) (u5 : Value) (u6 : Value) (s0 : Int32) : jR (d + 1) 242 53 [.ref a, .int i1, u2, u3, u4, u5, u6] [.int s0] μ = (jgR μ 13 38 (.ref a)).bind fun w1 => (jaI μ w1 i1).bind fun x2 => (if jrecv μ 13 (.ref a) = true then (jC d 194 [.ref a, .int s0, .int x2] μ).bind fun p3 => jR (d + 1) 242 65 [.ref a, .int i1, u2, .int s0, u4, u5, u6] (p3.1.toList ++ []) p3.2 else none) :=
  (l_istore_n (show gPG 242 53 = some (.istore_n 3) by decide +kernel) (ls := [.ref a, .int i1, u2, u3, u4, u5, u6]) (show (3 : Nat) < 7 by decide) (show _ = ([.ref a, .int i1, u2, .int s0, u4, u5, u6] : List Value) from rfl)).trans <|
  (l_aload_n (show gPG 242 54 = some (.aload_n 0) by decide +kernel) rfl jr_ref).trans <|
  (l_iload_n (show gPG 242 55 = some (.iload_n 3) by decide +kernel) rfl).trans <|
  (l_aload_n (show gPG 242 56 = some (.aload_n 0) by decide +kernel) rfl jr_ref).trans <|
  (l_gR (show gPG 242 57 = some (.getfield 82) by decide +kernel) (kd := 13) (sl := 38) (tc := 1) (fin := 1) (z := 0) (by decide +kernel) (by decide +kernel) (by decide +kernel)).trans <| bd_cg fun w1 hw1 =>
  (l_iload_n (show gPG 242 60 = some (.iload_n 1) by decide +kernel) rfl).trans <|
  (l_iald (show gPG 242 61 = some (.iaload) by decide +kernel) ).trans <| bd_cg fun x2 hx2 =>
  l_callV (u := 1) (v := .ref a) (as := [.int s0, .int x2]) (show gPG 242 62 = some (jinvI 1 301) by decide +kernel) (by decide) (cc := 194) (na := 3) (kd := 13) (q4 := 0) (z := 10) (rest := []) (by decide +kernel) (by decide +kernel)  rfl (show (3 : Nat) ≤ 3 by decide) rfl cs0 (by decide +kernel) (cai (cai (cav jr_ref ca0)))
theorem b242_65 (d : Nat) (μ : jM) (a : Nat) (i1 : Int32) (u2 : Value) (i3 : Int32) (u4 : Value) (u5 : Value) (u6 : Value) (s0 : Int32) : jR (d + 1) 242 65 [.ref a, .int i1, u2, .int i3, u4, u5, u6] [.int s0] μ = (jgR μ 13 38 (.ref a)).bind fun w1 => (jaI μ w1 i1).bind fun x2 => (if jrecv μ 13 (.ref a) = true then (jC d 194 [.ref a, .int 3, .int x2] μ).bind fun p3 => jR (d + 1) 242 78 [.ref a, .int i1, u2, .int i3, .int s0, u5, u6] (p3.1.toList ++ []) p3.2 else none) :=
  (l_istore (show gPG 242 65 = some (.istore 4) by decide +kernel) (ls := [.ref a, .int i1, u2, .int i3, u4, u5, u6]) (show (4 : Nat) < 7 by decide) (show _ = ([.ref a, .int i1, u2, .int i3, .int s0, u5, u6] : List Value) from rfl)).trans <|
  (l_aload_n (show gPG 242 67 = some (.aload_n 0) by decide +kernel) rfl jr_ref).trans <|
  (l_iconst (show gPG 242 68 = some (.iconst 3) by decide +kernel) (c := 3) (by decide +kernel)).trans <|
  (l_aload_n (show gPG 242 69 = some (.aload_n 0) by decide +kernel) rfl jr_ref).trans <|
  (l_gR (show gPG 242 70 = some (.getfield 82) by decide +kernel) (kd := 13) (sl := 38) (tc := 1) (fin := 1) (z := 0) (by decide +kernel) (by decide +kernel) (by decide +kernel)).trans <| bd_cg fun w1 hw1 =>
  (l_iload_n (show gPG 242 73 = some (.iload_n 1) by decide +kernel) rfl).trans <|
  (l_iald (show gPG 242 74 = some (.iaload) by decide +kernel) ).trans <| bd_cg fun x2 hx2 =>
  l_callV (u := 1) (v := .ref a) (as := [.int 3, .int x2]) (show gPG 242 75 = some (jinvI 1 301) by decide +kernel) (by decide) (cc := 194) (na := 3) (kd := 13) (q4 := 0) (z := 10) (rest := []) (by decide +kernel) (by decide +kernel)  rfl (show (3 : Nat) ≤ 3 by decide) rfl cs0 (by decide +kernel) (cai (cai (cav jr_ref ca0)))
theorem b242_78 (d : Nat) (μ : jM) (a : Nat) (i1 : Int32) (u2 : Value) (i3 : Int32) (i4 : Int32) (u5 : Value) (u6 : Value) (s0 : Int32) : jR (d + 1) 242 78 [.ref a, .int i1, u2, .int i3, .int i4, u5, u6] [.int s0] μ = (jgR μ 13 39 (.ref a)).bind fun w1 => (jaI μ w1 i1).bind fun x2 => (jgR μ 13 37 (.ref a)).bind fun w3 => (jaI μ w3 i1).bind fun x4 => (if x4 = 1 then (if jrecv μ 13 (.ref a) = true then (jC d 236 [.ref a, .int i3, .int i4, .int x2, .int ((3 * s0) + x2)] μ).bind fun p12 => jR (d + 1) 242 114 [.ref a, .int i1, u2, .int i3, .int i4, .int s0, .int x2] (p12.1.toList ++ []) p12.2 else none) else (jgR μ 13 37 (.ref a)).bind fun w5 => (jaI μ w5 i1).bind fun x6 => (if x6 = 3 then (jgR μ 13 4 (.ref a)).bind fun w9 => (jaR μ w9 3).bind fun w10 => (if jrecv μ 13 (.ref a) = true then (jC d 232 [.ref a, .int i3, .int i4, .int x2] μ).bind fun p11 => jR (d + 1) 242 149 [.ref a, .int i1, u2, .int i3, .int i4, .int s0, .int x2] (p11.1.toList ++ [.int ((3 * s0) + x2), w10]) p11.2 else none) else (if i4 = (-1) then (if jrecv μ 13 (.ref a) = true then (jC d 200 [.ref a, .int 3, .int s0] μ).bind fun p8 => jR (d + 1) 242 166 [.ref a, .int i1, u2, .int i3, .int i4, .int s0, .int x2] (p8.1.toList ++ []) p8.2 else none) else (if jrecv μ 13 (.ref a) = true then (jC d 196 [.ref a, .int i3, .int i4, .int 3, .int s0] μ).bind fun p7 => jR (d + 1) 242 179 [.ref a, .int i1, u2, .int i3, .int i4, .int s0, .int x2] (p7.1.toList ++ []) p7.2 else none)))) :=
  (l_istore (show gPG 242 78 = some (.istore 5) by decide +kernel) (ls := [.ref a, .int i1, u2, .int i3, .int i4, u5, u6]) (show (5 : Nat) < 7 by decide) (show _ = ([.ref a, .int i1, u2, .int i3, .int i4, .int s0, u6] : List Value) from rfl)).trans <|
  (l_aload_n (show gPG 242 80 = some (.aload_n 0) by decide +kernel) rfl jr_ref).trans <|
  (l_gR (show gPG 242 81 = some (.getfield 85) by decide +kernel) (kd := 13) (sl := 39) (tc := 1) (fin := 1) (z := 0) (by decide +kernel) (by decide +kernel) (by decide +kernel)).trans <| bd_cg fun w1 hw1 =>
  (l_iload_n (show gPG 242 84 = some (.iload_n 1) by decide +kernel) rfl).trans <|
  (l_iald (show gPG 242 85 = some (.iaload) by decide +kernel) ).trans <| bd_cg fun x2 hx2 =>
  (l_istore (show gPG 242 86 = some (.istore 6) by decide +kernel) (ls := [.ref a, .int i1, u2, .int i3, .int i4, .int s0, u6]) (show (6 : Nat) < 7 by decide) (show _ = ([.ref a, .int i1, u2, .int i3, .int i4, .int s0, .int x2] : List Value) from rfl)).trans <|
  (l_aload_n (show gPG 242 88 = some (.aload_n 0) by decide +kernel) rfl jr_ref).trans <|
  (l_gR (show gPG 242 89 = some (.getfield 79) by decide +kernel) (kd := 13) (sl := 37) (tc := 1) (fin := 1) (z := 0) (by decide +kernel) (by decide +kernel) (by decide +kernel)).trans <| bd_cg fun w3 hw3 =>
  (l_iload_n (show gPG 242 92 = some (.iload_n 1) by decide +kernel) rfl).trans <|
  (l_iald (show gPG 242 93 = some (.iaload) by decide +kernel) ).trans <| bd_cg fun x4 hx4 =>
  (l_iconst (show gPG 242 94 = some (.iconst 1) by decide +kernel) (c := 1) (by decide +kernel)).trans <|
  (l_cmp (show gPG 242 95 = some (.if_icmp .ne 22) by decide +kernel) (t := 117) (by decide +kernel)).trans <| jm_ne.trans <| ite_cg (
  (l_aload_n (show gPG 242 98 = some (.aload_n 0) by decide +kernel) rfl jr_ref).trans <|
  (l_iload_n (show gPG 242 99 = some (.iload_n 3) by decide +kernel) rfl).trans <|
  (l_iload (show gPG 242 100 = some (.iload 4) by decide +kernel) rfl).trans <|
  (l_iload (show gPG 242 102 = some (.iload 6) by decide +kernel) rfl).trans <|
  (l_iconst (show gPG 242 104 = some (.iconst 3) by decide +kernel) (c := 3) (by decide +kernel)).trans <|
  (l_iload (show gPG 242 105 = some (.iload 5) by decide +kernel) rfl).trans <|
  (l_imul (show gPG 242 107 = some (.imul) by decide +kernel) ).trans <|
  (l_iload (show gPG 242 108 = some (.iload 6) by decide +kernel) rfl).trans <|
  (l_iadd (show gPG 242 110 = some (.iadd) by decide +kernel) ).trans <|
  l_callV (u := 1) (v := .ref a) (as := [.int i3, .int i4, .int x2, .int ((3 * s0) + x2)]) (show gPG 242 111 = some (jinvI 1 429) by decide +kernel) (by decide) (cc := 236) (na := 5) (kd := 13) (q4 := 0) (z := 10) (rest := []) (by decide +kernel) (by decide +kernel)  rfl (show (5 : Nat) ≤ 5 by decide) rfl cs0 (by decide +kernel) (cai (cai (cai (cai (cav jr_ref ca0)))))) (
  (l_aload_n (show gPG 242 117 = some (.aload_n 0) by decide +kernel) rfl jr_ref).trans <|
  (l_gR (show gPG 242 118 = some (.getfield 79) by decide +kernel) (kd := 13) (sl := 37) (tc := 1) (fin := 1) (z := 0) (by decide +kernel) (by decide +kernel) (by decide +kernel)).trans <| bd_cg fun w5 hw5 =>
  (l_iload_n (show gPG 242 121 = some (.iload_n 1) by decide +kernel) rfl).trans <|
  (l_iald (show gPG 242 122 = some (.iaload) by decide +kernel) ).trans <| bd_cg fun x6 hx6 =>
  (l_iconst (show gPG 242 123 = some (.iconst 3) by decide +kernel) (c := 3) (by decide +kernel)).trans <|
  (l_cmp (show gPG 242 124 = some (.if_icmp .ne 29) by decide +kernel) (t := 153) (by decide +kernel)).trans <| jm_ne.trans <| ite_cg (
  (l_aload_n (show gPG 242 127 = some (.aload_n 0) by decide +kernel) rfl jr_ref).trans <|
  (l_gR (show gPG 242 128 = some (.getfield 26) by decide +kernel) (kd := 13) (sl := 4) (tc := 1) (fin := 1) (z := 0) (by decide +kernel) (by decide +kernel) (by decide +kernel)).trans <| bd_cg fun w9 hw9 =>
  (l_iconst (show gPG 242 131 = some (.iconst 3) by decide +kernel) (c := 3) (by decide +kernel)).trans <|
  (l_aald (show gPG 242 132 = some (.aaload) by decide +kernel) ).trans <| bd_cg fun w10 hw10 =>
  (l_iconst (show gPG 242 133 = some (.iconst 3) by decide +kernel) (c := 3) (by decide +kernel)).trans <|
  (l_iload (show gPG 242 134 = some (.iload 5) by decide +kernel) rfl).trans <|
  (l_imul (show gPG 242 136 = some (.imul) by decide +kernel) ).trans <|
  (l_iload (show gPG 242 137 = some (.iload 6) by decide +kernel) rfl).trans <|
  (l_iadd (show gPG 242 139 = some (.iadd) by decide +kernel) ).trans <|
  (l_aload_n (show gPG 242 140 = some (.aload_n 0) by decide +kernel) rfl jr_ref).trans <|
  (l_iload_n (show gPG 242 141 = some (.iload_n 3) by decide +kernel) rfl).trans <|
  (l_iload (show gPG 242 142 = some (.iload 4) by decide +kernel) rfl).trans <|
  (l_iload (show gPG 242 144 = some (.iload 6) by decide +kernel) rfl).trans <|
  l_callV (u := 1) (v := .ref a) (as := [.int i3, .int i4, .int x2]) (show gPG 242 146 = some (jinvI 1 419) by decide +kernel) (by decide) (cc := 232) (na := 4) (kd := 13) (q4 := 0) (z := 10) (rest := [.int ((3 * s0) + x2), w10]) (by decide +kernel) (by decide +kernel)  rfl (show (4 : Nat) ≤ 6 by decide) rfl (csi (csv (jr_aR hw10) cs0)) (by decide +kernel) (cai (cai (cai (cav jr_ref ca0))))) (
  (l_iload (show gPG 242 153 = some (.iload 4) by decide +kernel) rfl).trans <|
  (l_iconst (show gPG 242 155 = some (.iconst (-1)) by decide +kernel) (c := (-1)) (by decide +kernel)).trans <|
  (l_cmp (show gPG 242 156 = some (.if_icmp .ne 13) by decide +kernel) (t := 169) (by decide +kernel)).trans <| jm_ne.trans <| ite_cg (
  (l_aload_n (show gPG 242 159 = some (.aload_n 0) by decide +kernel) rfl jr_ref).trans <|
  (l_iconst (show gPG 242 160 = some (.iconst 3) by decide +kernel) (c := 3) (by decide +kernel)).trans <|
  (l_iload (show gPG 242 161 = some (.iload 5) by decide +kernel) rfl).trans <|
  l_callV (u := 1) (v := .ref a) (as := [.int 3, .int s0]) (show gPG 242 163 = some (jinvI 1 307) by decide +kernel) (by decide) (cc := 200) (na := 3) (kd := 13) (q4 := 0) (z := 10) (rest := []) (by decide +kernel) (by decide +kernel)  rfl (show (3 : Nat) ≤ 3 by decide) rfl cs0 (by decide +kernel) (cai (cai (cav jr_ref ca0)))) (
  (l_aload_n (show gPG 242 169 = some (.aload_n 0) by decide +kernel) rfl jr_ref).trans <|
  (l_iload_n (show gPG 242 170 = some (.iload_n 3) by decide +kernel) rfl).trans <|
  (l_iload (show gPG 242 171 = some (.iload 4) by decide +kernel) rfl).trans <|
  (l_iconst (show gPG 242 173 = some (.iconst 3) by decide +kernel) (c := 3) (by decide +kernel)).trans <|
  (l_iload (show gPG 242 174 = some (.iload 5) by decide +kernel) rfl).trans <|
  l_callV (u := 1) (v := .ref a) (as := [.int i3, .int i4, .int 3, .int s0]) (show gPG 242 176 = some (jinvI 1 140) by decide +kernel) (by decide) (cc := 196) (na := 5) (kd := 13) (q4 := 0) (z := 10) (rest := []) (by decide +kernel) (by decide +kernel)  rfl (show (5 : Nat) ≤ 5 by decide) rfl cs0 (by decide +kernel) (cai (cai (cai (cai (cav jr_ref ca0))))))))
theorem b242_114 (d : Nat) (μ : jM) (a : Nat) (i1 : Int32) (u2 : Value) (u3 : Value) (u4 : Value) (u5 : Value) (u6 : Value) : jR d 242 114 [.ref a, .int i1, u2, u3, u4, u5, u6] [] μ = jR d 242 179 [.ref a, .int i1, u2, u3, u4, u5, u6] [] μ :=
  l_goto (show gPG 242 114 = some (.goto 65) by decide +kernel) (t := 179) (by decide +kernel)
theorem b242_149 (d : Nat) (μ : jM) (a : Nat) (i1 : Int32) (u2 : Value) (u3 : Value) (u4 : Value) (u5 : Value) (u6 : Value) (s0 : Value) (s1 : Int32) (s2 : Int32) (hs0 : jisref s0 = true) : jR d 242 149 [.ref a, .int i1, u2, u3, u4, u5, u6] [.int s2, .int s1, s0] μ = (jsI μ s0 s1 s2).bind fun m1 => jR d 242 179 [.ref a, .int i1, u2, u3, u4, u5, u6] [] m1 :=
  (l_iast (show gPG 242 149 = some (.iastore) by decide +kernel) ).trans <| bd_cg fun m1 hm1 =>
  l_goto (show gPG 242 150 = some (.goto 29) by decide +kernel) (t := 179) (by decide +kernel)
theorem b242_166 (d : Nat) (μ : jM) (a : Nat) (i1 : Int32) (u2 : Value) (u3 : Value) (u4 : Value) (u5 : Value) (u6 : Value) : jR d 242 166 [.ref a, .int i1, u2, u3, u4, u5, u6] [] μ = jR d 242 179 [.ref a, .int i1, u2, u3, u4, u5, u6] [] μ :=
  l_goto (show gPG 242 166 = some (.goto 13) by decide +kernel) (t := 179) (by decide +kernel)
theorem b242_179 (d : Nat) (μ : jM) (a : Nat) (i1 : Int32) (u2 : Value) (u3 : Value) (u4 : Value) (u5 : Value) (u6 : Value) : jR (d + 1) 242 179 [.ref a, .int i1, u2, u3, u4, u5, u6] [] μ = (jgR μ 13 40 (.ref a)).bind fun w1 => (jsB μ w1 i1 1).bind fun m2 => (if jrecv m2 13 (.ref a) = true then (jC d 243 [.ref a] m2).bind fun p3 => jR (d + 1) 242 190 [.ref a, .int i1, u2, u3, u4, u5, u6] (p3.1.toList ++ []) p3.2 else none) :=
  (l_aload_n (show gPG 242 179 = some (.aload_n 0) by decide +kernel) rfl jr_ref).trans <|
  (l_gR (show gPG 242 180 = some (.getfield 88) by decide +kernel) (kd := 13) (sl := 40) (tc := 1) (fin := 1) (z := 0) (by decide +kernel) (by decide +kernel) (by decide +kernel)).trans <| bd_cg fun w1 hw1 =>
  (l_iload_n (show gPG 242 183 = some (.iload_n 1) by decide +kernel) rfl).trans <|
  (l_iconst (show gPG 242 184 = some (.iconst 1) by decide +kernel) (c := 1) (by decide +kernel)).trans <|
  (l_bast (show gPG 242 185 = some (.bastore) by decide +kernel) ).trans <| bd_cg fun m2 hm2 =>
  (l_aload_n (show gPG 242 186 = some (.aload_n 0) by decide +kernel) rfl jr_ref).trans <|
  l_callV (u := 1) (v := .ref a) (as := []) (show gPG 242 187 = some (jinvI 1 462) by decide +kernel) (by decide) (cc := 243) (na := 1) (kd := 13) (q4 := 0) (z := 10) (rest := []) (by decide +kernel) (by decide +kernel)  rfl (show (1 : Nat) ≤ 1 by decide) rfl cs0 (by decide +kernel) (cav jr_ref ca0)
theorem b242_190 (d : Nat) (μ : jM) (u0 : Value) (u1 : Value) (u2 : Value) (u3 : Value) (u4 : Value) (u5 : Value) (u6 : Value) (s0 : Int32) : jR d 242 190 [u0, u1, u2, u3, u4, u5, u6] [.int s0] μ = some (some (.int s0), μ) :=
  l_iret1 (show gPG 242 190 = some (.ireturn) by decide +kernel) (by decide +kernel)
-- Ref.unsettled
theorem b243_0 (d : Nat) (μ : jM) (a : Nat) : jR d 243 0 [.ref a, .retAddr 0, .retAddr 0] [] μ = jR d 243 4 [.ref a, .int 0, .int 0] [] μ :=
  (l_iconst (show gPG 243 0 = some (.iconst 0) by decide +kernel) (c := 0) (by decide +kernel)).trans <|
  (l_istore_n (show gPG 243 1 = some (.istore_n 1) by decide +kernel) (ls := [.ref a, .retAddr 0, .retAddr 0]) (show (1 : Nat) < 3 by decide) (show _ = ([.ref a, .int 0, .retAddr 0] : List Value) from rfl)).trans <|
  (l_iconst (show gPG 243 2 = some (.iconst 0) by decide +kernel) (c := 0) (by decide +kernel)).trans <|
  l_istore_n (show gPG 243 3 = some (.istore_n 2) by decide +kernel) (ls := [.ref a, .int 0, .retAddr 0]) (show (2 : Nat) < 3 by decide) (show _ = ([.ref a, .int 0, .int 0] : List Value) from rfl)
theorem b243_4 (d : Nat) (μ : jM) (a : Nat) (i1 : Int32) (i2 : Int32) : jR d 243 4 [.ref a, .int i1, .int i2] [] μ = (jgI μ 13 35 (.ref a)).bind fun x1 => (if i2 < x1 then (jgR μ 13 40 (.ref a)).bind fun w2 => (jaB μ w2 i2).bind fun x3 => (if x3 = 0 then jR d 243 24 [.ref a, .int (i1 + 1), .int i2] [] μ else jR d 243 24 [.ref a, .int i1, .int i2] [] μ) else some (some (.int i1), μ)) :=
  (l_iload_n (show gPG 243 4 = some (.iload_n 2) by decide +kernel) rfl).trans <|
  (l_aload_n (show gPG 243 5 = some (.aload_n 0) by decide +kernel) rfl jr_ref).trans <|
  (l_gI (show gPG 243 6 = some (.getfield 163) by decide +kernel) (kd := 13) (sl := 35) (tc := 0) (fin := 0) (z := 0) (by decide +kernel) (by decide +kernel) (by decide +kernel)).trans <| bd_cg fun x1 hx1 =>
  (l_cmp (show gPG 243 9 = some (.if_icmp .ge 21) by decide +kernel) (t := 30) (by decide +kernel)).trans <| jm_ge.trans <| ite_cg (
  (l_aload_n (show gPG 243 12 = some (.aload_n 0) by decide +kernel) rfl jr_ref).trans <|
  (l_gR (show gPG 243 13 = some (.getfield 88) by decide +kernel) (kd := 13) (sl := 40) (tc := 1) (fin := 1) (z := 0) (by decide +kernel) (by decide +kernel) (by decide +kernel)).trans <| bd_cg fun w2 hw2 =>
  (l_iload_n (show gPG 243 16 = some (.iload_n 2) by decide +kernel) rfl).trans <|
  (l_bald (show gPG 243 17 = some (.baload) by decide +kernel) ).trans <| bd_cg fun x3 hx3 =>
  (l_cmp0 (show gPG 243 18 = some (.ifCond .ne 6) by decide +kernel) (t := 24) (by decide +kernel)).trans <| jm_ne.trans <| ite_cg (
  l_iinc (show gPG 243 21 = some (.iinc 1 1) by decide +kernel) (c := 1) (by decide +kernel) rfl (show _ = ([.ref a, .int (i1 + 1), .int i2] : List Value) from rfl)) (
  rfl)) (
  (l_iload_n (show gPG 243 30 = some (.iload_n 1) by decide +kernel) rfl).trans <|
  l_iret1 (show gPG 243 31 = some (.ireturn) by decide +kernel) (by decide +kernel))
theorem b243_24 (d : Nat) (μ : jM) (a : Nat) (i1 : Int32) (i2 : Int32) : jR d 243 24 [.ref a, .int i1, .int i2] [] μ = jR d 243 4 [.ref a, .int i1, .int (i2 + 1)] [] μ :=
  (l_iinc (show gPG 243 24 = some (.iinc 2 1) by decide +kernel) (c := 1) (by decide +kernel) rfl (show _ = ([.ref a, .int i1, .int (i2 + 1)] : List Value) from rfl)).trans <|
  l_goto (show gPG 243 27 = some (.goto (-23)) by decide +kernel) (t := 4) (by decide +kernel)
-- Ref.take
theorem b244_0 (d : Nat) (μ : jM) (a : Nat) : jR (d + 1) 244 0 [.ref a, .retAddr 0] [] μ = (jgI μ 13 36 (.ref a)).bind fun x1 => (if x1 = 0 then jR (d + 1) 244 14 [.ref a, .retAddr 0] [] μ else (if jrecv μ 13 (.ref a) = true then (jC d 243 [.ref a] μ).bind fun p2 => jR (d + 1) 244 11 [.ref a, .retAddr 0] (p2.1.toList ++ []) p2.2 else none)) :=
  (l_aload_n (show gPG 244 0 = some (.aload_n 0) by decide +kernel) rfl jr_ref).trans <|
  (l_gI (show gPG 244 1 = some (.getfield 166) by decide +kernel) (kd := 13) (sl := 36) (tc := 2) (fin := 0) (z := 0) (by decide +kernel) (by decide +kernel) (by decide +kernel)).trans <| bd_cg fun x1 hx1 =>
  (l_cmp0 (show gPG 244 4 = some (.ifCond .eq 10) by decide +kernel) (t := 14) (by decide +kernel)).trans <| jm_eq.trans <| ite_cg (
  rfl) (
  (l_aload_n (show gPG 244 7 = some (.aload_n 0) by decide +kernel) rfl jr_ref).trans <|
  l_callV (u := 1) (v := .ref a) (as := []) (show gPG 244 8 = some (jinvI 1 462) by decide +kernel) (by decide) (cc := 243) (na := 1) (kd := 13) (q4 := 0) (z := 10) (rest := []) (by decide +kernel) (by decide +kernel)  rfl (show (1 : Nat) ≤ 1 by decide) rfl cs0 (by decide +kernel) (cav jr_ref ca0))
theorem b244_11 (d : Nat) (μ : jM) (a : Nat) (u1 : Value) (s0 : Int32) : jR (d + 1) 244 11 [.ref a, u1] [.int s0] μ = (if 0 < s0 then jR (d + 1) 244 14 [.ref a, u1] [] μ else (if jrecv μ 13 (.ref a) = true then (jC d 189 [.ref a] μ).bind fun p1 => jR (d + 1) 244 21 [.ref a, u1] (p1.1.toList ++ []) p1.2 else none)) :=
  (l_cmp0 (show gPG 244 11 = some (.ifCond .le 6) by decide +kernel) (t := 17) (by decide +kernel)).trans <| jm_le.trans <| ite_cg (
  rfl) (
  (l_aload_n (show gPG 244 17 = some (.aload_n 0) by decide +kernel) rfl jr_ref).trans <|
  l_callV (u := 1) (v := .ref a) (as := []) (show gPG 244 18 = some (jinvI 1 291) by decide +kernel) (by decide) (cc := 189) (na := 1) (kd := 13) (q4 := 0) (z := 10) (rest := []) (by decide +kernel) (by decide +kernel)  rfl (show (1 : Nat) ≤ 1 by decide) rfl cs0 (by decide +kernel) (cav jr_ref ca0))
theorem b244_14 (d : Nat) (μ : jM) (u0 : Value) (u1 : Value) : jR d 244 14 [u0, u1] [] μ = some (some (.int (-3)), μ) :=
  (l_bipush (show gPG 244 14 = some (.bipush (-3)) by decide +kernel) (c := (-3)) (by decide +kernel)).trans <|
  l_iret1 (show gPG 244 16 = some (.ireturn) by decide +kernel) (by decide +kernel)
theorem b244_21 (d : Nat) (μ : jM) (a : Nat) (u1 : Value) : jR d 244 21 [.ref a, u1] [] μ = jR d 244 23 [.ref a, .int 0] [] μ :=
  (l_iconst (show gPG 244 21 = some (.iconst 0) by decide +kernel) (c := 0) (by decide +kernel)).trans <|
  l_istore_n (show gPG 244 22 = some (.istore_n 1) by decide +kernel) (ls := [.ref a, u1]) (show (1 : Nat) < 2 by decide) (show _ = ([.ref a, .int 0] : List Value) from rfl)
theorem b244_23 (d : Nat) (μ : jM) (a : Nat) (i1 : Int32) : jR (d + 1) 244 23 [.ref a, .int i1] [] μ = (if i1 < 3 then (if jrecv μ 13 (.ref a) = true then (jC d 207 [.ref a, .int 3, .int i1] μ).bind fun p3 => jR (d + 1) 244 34 [.ref a, .int i1] (p3.1.toList ++ []) p3.2 else none) else (jgR μ 13 0 (.ref a)).bind fun w1 => (jaI μ w1 3).bind fun x2 => some (some (.int x2), μ)) :=
  (l_iload_n (show gPG 244 23 = some (.iload_n 1) by decide +kernel) rfl).trans <|
  (l_iconst (show gPG 244 24 = some (.iconst 3) by decide +kernel) (c := 3) (by decide +kernel)).trans <|
  (l_cmp (show gPG 244 25 = some (.if_icmp .ge 15) by decide +kernel) (t := 40) (by decide +kernel)).trans <| jm_ge.trans <| ite_cg (
  (l_aload_n (show gPG 244 28 = some (.aload_n 0) by decide +kernel) rfl jr_ref).trans <|
  (l_iconst (show gPG 244 29 = some (.iconst 3) by decide +kernel) (c := 3) (by decide +kernel)).trans <|
  (l_iload_n (show gPG 244 30 = some (.iload_n 1) by decide +kernel) rfl).trans <|
  l_callV (u := 1) (v := .ref a) (as := [.int 3, .int i1]) (show gPG 244 31 = some (jinvI 1 327) by decide +kernel) (by decide) (cc := 207) (na := 3) (kd := 13) (q4 := 0) (z := 10) (rest := []) (by decide +kernel) (by decide +kernel)  rfl (show (3 : Nat) ≤ 3 by decide) rfl cs0 (by decide +kernel) (cai (cai (cav jr_ref ca0)))) (
  (l_aload_n (show gPG 244 40 = some (.aload_n 0) by decide +kernel) rfl jr_ref).trans <|
  (l_gR (show gPG 244 41 = some (.getfield 11) by decide +kernel) (kd := 13) (sl := 0) (tc := 1) (fin := 1) (z := 0) (by decide +kernel) (by decide +kernel) (by decide +kernel)).trans <| bd_cg fun w1 hw1 =>
  (l_iconst (show gPG 244 44 = some (.iconst 3) by decide +kernel) (c := 3) (by decide +kernel)).trans <|
  (l_iald (show gPG 244 45 = some (.iaload) by decide +kernel) ).trans <| bd_cg fun x2 hx2 =>
  l_iret1 (show gPG 244 46 = some (.ireturn) by decide +kernel) (by decide +kernel))
theorem b244_34 (d : Nat) (μ : jM) (a : Nat) (i1 : Int32) : jR d 244 34 [.ref a, .int i1] [] μ = jR d 244 23 [.ref a, .int (i1 + 1)] [] μ :=
  (l_iinc (show gPG 244 34 = some (.iinc 1 1) by decide +kernel) (c := 1) (by decide +kernel) rfl (show _ = ([.ref a, .int (i1 + 1)] : List Value) from rfl)).trans <|
  l_goto (show gPG 244 37 = some (.goto (-14)) by decide +kernel) (t := 23) (by decide +kernel)
-- Ref.exchanged
theorem b245_0 (d : Nat) (μ : jM) (a : Nat) : jR (d + 1) 245 0 [.ref a, .retAddr 0] [] μ = (if jrecv μ 13 (.ref a) = true then (jC d 246 [.ref a] μ).bind fun p1 => jR (d + 1) 245 4 [.ref a, .retAddr 0] (p1.1.toList ++ []) p1.2 else none) :=
  (l_aload_n (show gPG 245 0 = some (.aload_n 0) by decide +kernel) rfl jr_ref).trans <|
  l_callV (u := 1) (v := .ref a) (as := []) (show gPG 245 1 = some (jinvI 1 468) by decide +kernel) (by decide) (cc := 246) (na := 1) (kd := 13) (q4 := 0) (z := 10) (rest := []) (by decide +kernel) (by decide +kernel)  rfl (show (1 : Nat) ≤ 1 by decide) rfl cs0 (by decide +kernel) (cav jr_ref ca0)
theorem b245_4 (d : Nat) (μ : jM) (a : Nat) (u1 : Value) : jR (d + 1) 245 4 [.ref a, u1] [] μ = (if jrecv μ 13 (.ref a) = true then (jC d 225 [.ref a] μ).bind fun p1 => jR (d + 1) 245 11 [.ref a, .int (-4)] (p1.1.toList ++ []) p1.2 else none) :=
  (l_bipush (show gPG 245 4 = some (.bipush (-4)) by decide +kernel) (c := (-4)) (by decide +kernel)).trans <|
  (l_istore_n (show gPG 245 6 = some (.istore_n 1) by decide +kernel) (ls := [.ref a, u1]) (show (1 : Nat) < 2 by decide) (show _ = ([.ref a, .int (-4)] : List Value) from rfl)).trans <|
  (l_aload_n (show gPG 245 7 = some (.aload_n 0) by decide +kernel) rfl jr_ref).trans <|
  l_callV (u := 1) (v := .ref a) (as := []) (show gPG 245 8 = some (jinvI 1 459) by decide +kernel) (by decide) (cc := 225) (na := 1) (kd := 13) (q4 := 0) (z := 10) (rest := []) (by decide +kernel) (by decide +kernel)  rfl (show (1 : Nat) ≤ 1 by decide) rfl cs0 (by decide +kernel) (cav jr_ref ca0)
theorem b245_11 (d : Nat) (μ : jM) (a : Nat) (i1 : Int32) (s0 : Int32) : jR (d + 1) 245 11 [.ref a, .int i1] [.int s0] μ = (if s0 = 0 then jR (d + 1) 245 48 [.ref a, .int i1] [] μ else (if jrecv μ 13 (.ref a) = true then (jC d 247 [.ref a] μ).bind fun p1 => jR (d + 1) 245 18 [.ref a, .int i1] (p1.1.toList ++ []) p1.2 else none)) :=
  (l_cmp0 (show gPG 245 11 = some (.ifCond .eq 37) by decide +kernel) (t := 48) (by decide +kernel)).trans <| jm_eq.trans <| ite_cg (
  rfl) (
  (l_aload_n (show gPG 245 14 = some (.aload_n 0) by decide +kernel) rfl jr_ref).trans <|
  l_callV (u := 1) (v := .ref a) (as := []) (show gPG 245 15 = some (jinvI 1 471) by decide +kernel) (by decide) (cc := 247) (na := 1) (kd := 13) (q4 := 0) (z := 10) (rest := []) (by decide +kernel) (by decide +kernel)  rfl (show (1 : Nat) ≤ 1 by decide) rfl cs0 (by decide +kernel) (cav jr_ref ca0))
theorem b245_18 (d : Nat) (μ : jM) (a : Nat) (i1 : Int32) : jR (d + 1) 245 18 [.ref a, .int i1] [] μ = (if jrecv μ 13 (.ref a) = true then (jC d 207 [.ref a, .int 2, .int 3] μ).bind fun p1 => jR (d + 1) 245 24 [.ref a, .int i1] (p1.1.toList ++ []) p1.2 else none) :=
  (l_aload_n (show gPG 245 18 = some (.aload_n 0) by decide +kernel) rfl jr_ref).trans <|
  (l_iconst (show gPG 245 19 = some (.iconst 2) by decide +kernel) (c := 2) (by decide +kernel)).trans <|
  (l_iconst (show gPG 245 20 = some (.iconst 3) by decide +kernel) (c := 3) (by decide +kernel)).trans <|
  l_callV (u := 1) (v := .ref a) (as := [.int 2, .int 3]) (show gPG 245 21 = some (jinvI 1 327) by decide +kernel) (by decide) (cc := 207) (na := 3) (kd := 13) (q4 := 0) (z := 10) (rest := []) (by decide +kernel) (by decide +kernel)  rfl (show (3 : Nat) ≤ 3 by decide) rfl cs0 (by decide +kernel) (cai (cai (cav jr_ref ca0)))
theorem b245_24 (d : Nat) (μ : jM) (a : Nat) (i1 : Int32) : jR (d + 1) 245 24 [.ref a, .int i1] [] μ = (if jrecv μ 13 (.ref a) = true then (jC d 207 [.ref a, .int 1, .int 2] μ).bind fun p1 => jR (d + 1) 245 30 [.ref a, .int i1] (p1.1.toList ++ []) p1.2 else none) :=
  (l_aload_n (show gPG 245 24 = some (.aload_n 0) by decide +kernel) rfl jr_ref).trans <|
  (l_iconst (show gPG 245 25 = some (.iconst 1) by decide +kernel) (c := 1) (by decide +kernel)).trans <|
  (l_iconst (show gPG 245 26 = some (.iconst 2) by decide +kernel) (c := 2) (by decide +kernel)).trans <|
  l_callV (u := 1) (v := .ref a) (as := [.int 1, .int 2]) (show gPG 245 27 = some (jinvI 1 327) by decide +kernel) (by decide) (cc := 207) (na := 3) (kd := 13) (q4 := 0) (z := 10) (rest := []) (by decide +kernel) (by decide +kernel)  rfl (show (3 : Nat) ≤ 3 by decide) rfl cs0 (by decide +kernel) (cai (cai (cav jr_ref ca0)))
theorem b245_30 (d : Nat) (μ : jM) (a : Nat) (i1 : Int32) : jR (d + 1) 245 30 [.ref a, .int i1] [] μ = (if jrecv μ 13 (.ref a) = true then (jC d 207 [.ref a, .int 3, .int 1] μ).bind fun p1 => jR (d + 1) 245 36 [.ref a, .int i1] (p1.1.toList ++ []) p1.2 else none) :=
  (l_aload_n (show gPG 245 30 = some (.aload_n 0) by decide +kernel) rfl jr_ref).trans <|
  (l_iconst (show gPG 245 31 = some (.iconst 3) by decide +kernel) (c := 3) (by decide +kernel)).trans <|
  (l_iconst (show gPG 245 32 = some (.iconst 1) by decide +kernel) (c := 1) (by decide +kernel)).trans <|
  l_callV (u := 1) (v := .ref a) (as := [.int 3, .int 1]) (show gPG 245 33 = some (jinvI 1 327) by decide +kernel) (by decide) (cc := 207) (na := 3) (kd := 13) (q4 := 0) (z := 10) (rest := []) (by decide +kernel) (by decide +kernel)  rfl (show (3 : Nat) ≤ 3 by decide) rfl cs0 (by decide +kernel) (cai (cai (cav jr_ref ca0)))
theorem b245_36 (d : Nat) (μ : jM) (a : Nat) (i1 : Int32) : jR (d + 1) 245 36 [.ref a, .int i1] [] μ = (if jrecv μ 13 (.ref a) = true then (jC d 225 [.ref a] μ).bind fun p1 => jR (d + 1) 245 40 [.ref a, .int i1] (p1.1.toList ++ []) p1.2 else none) :=
  (l_aload_n (show gPG 245 36 = some (.aload_n 0) by decide +kernel) rfl jr_ref).trans <|
  l_callV (u := 1) (v := .ref a) (as := []) (show gPG 245 37 = some (jinvI 1 459) by decide +kernel) (by decide) (cc := 225) (na := 1) (kd := 13) (q4 := 0) (z := 10) (rest := []) (by decide +kernel) (by decide +kernel)  rfl (show (1 : Nat) ≤ 1 by decide) rfl cs0 (by decide +kernel) (cav jr_ref ca0)
theorem b245_40 (d : Nat) (μ : jM) (a : Nat) (i1 : Int32) (s0 : Int32) : jR (d + 1) 245 40 [.ref a, .int i1] [.int s0] μ = (if s0 = 0 then jR (d + 1) 245 48 [.ref a, .int i1] [] μ else (if jrecv μ 13 (.ref a) = true then (jC d 248 [.ref a] μ).bind fun p1 => jR (d + 1) 245 47 [.ref a, .int i1] (p1.1.toList ++ []) p1.2 else none)) :=
  (l_cmp0 (show gPG 245 40 = some (.ifCond .eq 8) by decide +kernel) (t := 48) (by decide +kernel)).trans <| jm_eq.trans <| ite_cg (
  rfl) (
  (l_aload_n (show gPG 245 43 = some (.aload_n 0) by decide +kernel) rfl jr_ref).trans <|
  l_callV (u := 1) (v := .ref a) (as := []) (show gPG 245 44 = some (jinvI 1 474) by decide +kernel) (by decide) (cc := 248) (na := 1) (kd := 13) (q4 := 0) (z := 10) (rest := []) (by decide +kernel) (by decide +kernel)  rfl (show (1 : Nat) ≤ 1 by decide) rfl cs0 (by decide +kernel) (cav jr_ref ca0))
theorem b245_47 (d : Nat) (μ : jM) (a : Nat) (u1 : Value) (s0 : Int32) : jR d 245 47 [.ref a, u1] [.int s0] μ = jR d 245 48 [.ref a, .int s0] [] μ :=
  l_istore_n (show gPG 245 47 = some (.istore_n 1) by decide +kernel) (ls := [.ref a, u1]) (show (1 : Nat) < 2 by decide) (show _ = ([.ref a, .int s0] : List Value) from rfl)
theorem b245_48 (d : Nat) (μ : jM) (a : Nat) (i1 : Int32) : jR (d + 1) 245 48 [.ref a, .int i1] [] μ = (if jrecv μ 13 (.ref a) = true then (jC d 249 [.ref a] μ).bind fun p1 => jR (d + 1) 245 52 [.ref a, .int i1] (p1.1.toList ++ []) p1.2 else none) :=
  (l_aload_n (show gPG 245 48 = some (.aload_n 0) by decide +kernel) rfl jr_ref).trans <|
  l_callV (u := 1) (v := .ref a) (as := []) (show gPG 245 49 = some (jinvI 1 477) by decide +kernel) (by decide) (cc := 249) (na := 1) (kd := 13) (q4 := 0) (z := 10) (rest := []) (by decide +kernel) (by decide +kernel)  rfl (show (1 : Nat) ≤ 1 by decide) rfl cs0 (by decide +kernel) (cav jr_ref ca0)
theorem b245_52 (d : Nat) (μ : jM) (u0 : Value) (i1 : Int32) : jR d 245 52 [u0, .int i1] [] μ = some (some (.int i1), μ) :=
  (l_iload_n (show gPG 245 52 = some (.iload_n 1) by decide +kernel) rfl).trans <|
  l_iret1 (show gPG 245 53 = some (.ireturn) by decide +kernel) (by decide +kernel)
-- Ref.think
theorem b246_0 (d : Nat) (μ : jM) (a : Nat) : jR d 246 0 [.ref a, .retAddr 0] [] μ = jR d 246 2 [.ref a, .int 0] [] μ :=
  (l_iconst (show gPG 246 0 = some (.iconst 0) by decide +kernel) (c := 0) (by decide +kernel)).trans <|
  l_istore_n (show gPG 246 1 = some (.istore_n 1) by decide +kernel) (ls := [.ref a, .retAddr 0]) (show (1 : Nat) < 2 by decide) (show _ = ([.ref a, .int 0] : List Value) from rfl)
theorem b246_2 (d : Nat) (μ : jM) (a : Nat) (i1 : Int32) : jR (d + 1) 246 2 [.ref a, .int i1] [] μ = (if i1 < 4 then (if jrecv μ 13 (.ref a) = true then (jC d 191 [.ref a, .int 13, .int i1] μ).bind fun p6 => jR (d + 1) 246 14 [.ref a, .int i1] (p6.1.toList ++ []) p6.2 else none) else (jgR μ 13 41 (.ref a)).bind fun w1 => (jgI μ 13 35 (.ref a)).bind fun x2 => (jsI μ w1 0 x2).bind fun m3 => (jgR m3 13 41 (.ref a)).bind fun w4 => (jgI m3 13 36 (.ref a)).bind fun x5 => (if x5 = 0 then jR (d + 1) 246 47 [.ref a, .int i1] [.int 0, .int 1, w4] m3 else jR (d + 1) 246 47 [.ref a, .int i1] [.int 1, .int 1, w4] m3)) :=
  (l_iload_n (show gPG 246 2 = some (.iload_n 1) by decide +kernel) rfl).trans <|
  (l_iconst (show gPG 246 3 = some (.iconst 4) by decide +kernel) (c := 4) (by decide +kernel)).trans <|
  (l_cmp (show gPG 246 4 = some (.if_icmp .ge 16) by decide +kernel) (t := 20) (by decide +kernel)).trans <| jm_ge.trans <| ite_cg (
  (l_aload_n (show gPG 246 7 = some (.aload_n 0) by decide +kernel) rfl jr_ref).trans <|
  (l_bipush (show gPG 246 8 = some (.bipush 13) by decide +kernel) (c := 13) (by decide +kernel)).trans <|
  (l_iload_n (show gPG 246 10 = some (.iload_n 1) by decide +kernel) rfl).trans <|
  l_callV (u := 1) (v := .ref a) (as := [.int 13, .int i1]) (show gPG 246 11 = some (jinvI 1 157) by decide +kernel) (by decide) (cc := 191) (na := 3) (kd := 13) (q4 := 0) (z := 10) (rest := []) (by decide +kernel) (by decide +kernel)  rfl (show (3 : Nat) ≤ 3 by decide) rfl cs0 (by decide +kernel) (cai (cai (cav jr_ref ca0)))) (
  (l_aload_n (show gPG 246 20 = some (.aload_n 0) by decide +kernel) rfl jr_ref).trans <|
  (l_gR (show gPG 246 21 = some (.getfield 91) by decide +kernel) (kd := 13) (sl := 41) (tc := 1) (fin := 1) (z := 0) (by decide +kernel) (by decide +kernel) (by decide +kernel)).trans <| bd_cg fun w1 hw1 =>
  (l_iconst (show gPG 246 24 = some (.iconst 0) by decide +kernel) (c := 0) (by decide +kernel)).trans <|
  (l_aload_n (show gPG 246 25 = some (.aload_n 0) by decide +kernel) rfl jr_ref).trans <|
  (l_gI (show gPG 246 26 = some (.getfield 163) by decide +kernel) (kd := 13) (sl := 35) (tc := 0) (fin := 0) (z := 0) (by decide +kernel) (by decide +kernel) (by decide +kernel)).trans <| bd_cg fun x2 hx2 =>
  (l_iast (show gPG 246 29 = some (.iastore) by decide +kernel) ).trans <| bd_cg fun m3 hm3 =>
  (l_aload_n (show gPG 246 30 = some (.aload_n 0) by decide +kernel) rfl jr_ref).trans <|
  (l_gR (show gPG 246 31 = some (.getfield 91) by decide +kernel) (kd := 13) (sl := 41) (tc := 1) (fin := 1) (z := 0) (by decide +kernel) (by decide +kernel) (by decide +kernel)).trans <| bd_cg fun w4 hw4 =>
  (l_iconst (show gPG 246 34 = some (.iconst 1) by decide +kernel) (c := 1) (by decide +kernel)).trans <|
  (l_aload_n (show gPG 246 35 = some (.aload_n 0) by decide +kernel) rfl jr_ref).trans <|
  (l_gI (show gPG 246 36 = some (.getfield 166) by decide +kernel) (kd := 13) (sl := 36) (tc := 2) (fin := 0) (z := 0) (by decide +kernel) (by decide +kernel) (by decide +kernel)).trans <| bd_cg fun x5 hx5 =>
  (l_cmp0 (show gPG 246 39 = some (.ifCond .eq 7) by decide +kernel) (t := 46) (by decide +kernel)).trans <| jm_eq.trans <| ite_cg (
  l_iconst (show gPG 246 46 = some (.iconst 0) by decide +kernel) (c := 0) (by decide +kernel)) (
  (l_iconst (show gPG 246 42 = some (.iconst 1) by decide +kernel) (c := 1) (by decide +kernel)).trans <|
  l_goto (show gPG 246 43 = some (.goto 4) by decide +kernel) (t := 47) (by decide +kernel)))
theorem b246_14 (d : Nat) (μ : jM) (a : Nat) (i1 : Int32) : jR d 246 14 [.ref a, .int i1] [] μ = jR d 246 2 [.ref a, .int (i1 + 1)] [] μ :=
  (l_iinc (show gPG 246 14 = some (.iinc 1 1) by decide +kernel) (c := 1) (by decide +kernel) rfl (show _ = ([.ref a, .int (i1 + 1)] : List Value) from rfl)).trans <|
  l_goto (show gPG 246 17 = some (.goto (-15)) by decide +kernel) (t := 2) (by decide +kernel)
theorem b246_47 (d : Nat) (μ : jM) (a : Nat) (u1 : Value) (s0 : Value) (s1 : Int32) (s2 : Int32) (hs0 : jisref s0 = true) : jR (d + 1) 246 47 [.ref a, u1] [.int s2, .int s1, s0] μ = (jsI μ s0 s1 s2).bind fun m1 => (jgR m1 13 37 (.ref a)).bind fun w2 => (jgR m1 13 41 (.ref a)).bind fun w3 => (jcp m1 w2 0 w3 2 80).bind fun m4 => (jgR m4 13 38 (.ref a)).bind fun w5 => (jgR m4 13 41 (.ref a)).bind fun w6 => (jcp m4 w5 0 w6 82 80).bind fun m7 => (jgR m7 13 39 (.ref a)).bind fun w8 => (jgR m7 13 41 (.ref a)).bind fun w9 => (jcp m7 w8 0 w9 162 80).bind fun m10 => (jgR m10 13 40 (.ref a)).bind fun w11 => (jgR m10 13 42 (.ref a)).bind fun w12 => (jcp m10 w11 0 w12 0 80).bind fun m13 => some (none, m13) :=
  (l_iast (show gPG 246 47 = some (.iastore) by decide +kernel) ).trans <| bd_cg fun m1 hm1 =>
  (l_aload_n (show gPG 246 48 = some (.aload_n 0) by decide +kernel) rfl jr_ref).trans <|
  (l_gR (show gPG 246 49 = some (.getfield 79) by decide +kernel) (kd := 13) (sl := 37) (tc := 1) (fin := 1) (z := 0) (by decide +kernel) (by decide +kernel) (by decide +kernel)).trans <| bd_cg fun w2 hw2 =>
  (l_iconst (show gPG 246 52 = some (.iconst 0) by decide +kernel) (c := 0) (by decide +kernel)).trans <|
  (l_aload_n (show gPG 246 53 = some (.aload_n 0) by decide +kernel) rfl jr_ref).trans <|
  (l_gR (show gPG 246 54 = some (.getfield 91) by decide +kernel) (kd := 13) (sl := 41) (tc := 1) (fin := 1) (z := 0) (by decide +kernel) (by decide +kernel) (by decide +kernel)).trans <| bd_cg fun w3 hw3 =>
  (l_iconst (show gPG 246 57 = some (.iconst 2) by decide +kernel) (c := 2) (by decide +kernel)).trans <|
  (l_bipush (show gPG 246 58 = some (.bipush 80) by decide +kernel) (c := 80) (by decide +kernel)).trans <|
  (l_acp (show gPG 246 60 = some (.invokestatic 143) by decide +kernel) (q3 := 99) (q4 := 0) (z := 19) (by decide +kernel) (by decide +kernel) (jr_gR hw2) (jr_gR hw3) cs0 (by decide +kernel)).trans <| bd_cg fun m4 hm4 =>
  (l_aload_n (show gPG 246 63 = some (.aload_n 0) by decide +kernel) rfl jr_ref).trans <|
  (l_gR (show gPG 246 64 = some (.getfield 82) by decide +kernel) (kd := 13) (sl := 38) (tc := 1) (fin := 1) (z := 0) (by decide +kernel) (by decide +kernel) (by decide +kernel)).trans <| bd_cg fun w5 hw5 =>
  (l_iconst (show gPG 246 67 = some (.iconst 0) by decide +kernel) (c := 0) (by decide +kernel)).trans <|
  (l_aload_n (show gPG 246 68 = some (.aload_n 0) by decide +kernel) rfl jr_ref).trans <|
  (l_gR (show gPG 246 69 = some (.getfield 91) by decide +kernel) (kd := 13) (sl := 41) (tc := 1) (fin := 1) (z := 0) (by decide +kernel) (by decide +kernel) (by decide +kernel)).trans <| bd_cg fun w6 hw6 =>
  (l_bipush (show gPG 246 72 = some (.bipush 82) by decide +kernel) (c := 82) (by decide +kernel)).trans <|
  (l_bipush (show gPG 246 74 = some (.bipush 80) by decide +kernel) (c := 80) (by decide +kernel)).trans <|
  (l_acp (show gPG 246 76 = some (.invokestatic 143) by decide +kernel) (q3 := 99) (q4 := 0) (z := 19) (by decide +kernel) (by decide +kernel) (jr_gR hw5) (jr_gR hw6) cs0 (by decide +kernel)).trans <| bd_cg fun m7 hm7 =>
  (l_aload_n (show gPG 246 79 = some (.aload_n 0) by decide +kernel) rfl jr_ref).trans <|
  (l_gR (show gPG 246 80 = some (.getfield 85) by decide +kernel) (kd := 13) (sl := 39) (tc := 1) (fin := 1) (z := 0) (by decide +kernel) (by decide +kernel) (by decide +kernel)).trans <| bd_cg fun w8 hw8 =>
  (l_iconst (show gPG 246 83 = some (.iconst 0) by decide +kernel) (c := 0) (by decide +kernel)).trans <|
  (l_aload_n (show gPG 246 84 = some (.aload_n 0) by decide +kernel) rfl jr_ref).trans <|
  (l_gR (show gPG 246 85 = some (.getfield 91) by decide +kernel) (kd := 13) (sl := 41) (tc := 1) (fin := 1) (z := 0) (by decide +kernel) (by decide +kernel) (by decide +kernel)).trans <| bd_cg fun w9 hw9 =>
  (l_sipush (show gPG 246 88 = some (.sipush 162) by decide +kernel) (c := 162) (by decide +kernel)).trans <|
  (l_bipush (show gPG 246 91 = some (.bipush 80) by decide +kernel) (c := 80) (by decide +kernel)).trans <|
  (l_acp (show gPG 246 93 = some (.invokestatic 143) by decide +kernel) (q3 := 99) (q4 := 0) (z := 19) (by decide +kernel) (by decide +kernel) (jr_gR hw8) (jr_gR hw9) cs0 (by decide +kernel)).trans <| bd_cg fun m10 hm10 =>
  (l_aload_n (show gPG 246 96 = some (.aload_n 0) by decide +kernel) rfl jr_ref).trans <|
  (l_gR (show gPG 246 97 = some (.getfield 88) by decide +kernel) (kd := 13) (sl := 40) (tc := 1) (fin := 1) (z := 0) (by decide +kernel) (by decide +kernel) (by decide +kernel)).trans <| bd_cg fun w11 hw11 =>
  (l_iconst (show gPG 246 100 = some (.iconst 0) by decide +kernel) (c := 0) (by decide +kernel)).trans <|
  (l_aload_n (show gPG 246 101 = some (.aload_n 0) by decide +kernel) rfl jr_ref).trans <|
  (l_gR (show gPG 246 102 = some (.getfield 94) by decide +kernel) (kd := 13) (sl := 42) (tc := 1) (fin := 1) (z := 0) (by decide +kernel) (by decide +kernel) (by decide +kernel)).trans <| bd_cg fun w12 hw12 =>
  (l_iconst (show gPG 246 105 = some (.iconst 0) by decide +kernel) (c := 0) (by decide +kernel)).trans <|
  (l_bipush (show gPG 246 106 = some (.bipush 80) by decide +kernel) (c := 80) (by decide +kernel)).trans <|
  (l_acp (show gPG 246 108 = some (.invokestatic 143) by decide +kernel) (q3 := 99) (q4 := 0) (z := 19) (by decide +kernel) (by decide +kernel) (jr_gR hw11) (jr_gR hw12) cs0 (by decide +kernel)).trans <| bd_cg fun m13 hm13 =>
  l_ret (show gPG 246 111 = some (.return_) by decide +kernel) (by decide +kernel)
-- Ref.remember
theorem b247_0 (d : Nat) (μ : jM) (a : Nat) : jR (d + 1) 247 0 [.ref a, .retAddr 0] [] μ = (jgR μ 13 0 (.ref a)).bind fun w1 => (jaI μ w1 3).bind fun x2 => (jpI μ 13 43 0 (.ref a) x2).bind fun m3 => (jgR m3 13 1 (.ref a)).bind fun w4 => (jaR m3 w4 3).bind fun w5 => (jgR m3 13 44 (.ref a)).bind fun w6 => (jcp m3 w5 0 w6 0 8).bind fun m7 => (jgR m7 13 2 (.ref a)).bind fun w8 => (jaR m7 w8 3).bind fun w9 => (jgR m7 13 45 (.ref a)).bind fun w10 => (jcp m7 w9 0 w10 0 24).bind fun m11 => (jgR m11 13 3 (.ref a)).bind fun w12 => (jaR m11 w12 3).bind fun w13 => (jgR m11 13 46 (.ref a)).bind fun w14 => (jcp m11 w13 0 w14 0 24).bind fun m15 => jR (d + 1) 247 63 [.ref a, .int 0] [] m15 :=
  (l_aload_n (show gPG 247 0 = some (.aload_n 0) by decide +kernel) rfl jr_ref).trans <|
  (l_aload_n (show gPG 247 1 = some (.aload_n 0) by decide +kernel) rfl jr_ref).trans <|
  (l_gR (show gPG 247 2 = some (.getfield 11) by decide +kernel) (kd := 13) (sl := 0) (tc := 1) (fin := 1) (z := 0) (by decide +kernel) (by decide +kernel) (by decide +kernel)).trans <| bd_cg fun w1 hw1 =>
  (l_iconst (show gPG 247 5 = some (.iconst 3) by decide +kernel) (c := 3) (by decide +kernel)).trans <|
  (l_iald (show gPG 247 6 = some (.iaload) by decide +kernel) ).trans <| bd_cg fun x2 hx2 =>
  (l_pI (show gPG 247 7 = some (.putfield 465) by decide +kernel) (kd := 13) (sl := 43) (tc := 0) (fin := 0) (z := 0) (by decide +kernel) (by decide +kernel) (by decide +kernel)).trans <| bd_cg fun m3 hm3 =>
  (l_aload_n (show gPG 247 10 = some (.aload_n 0) by decide +kernel) rfl jr_ref).trans <|
  (l_gR (show gPG 247 11 = some (.getfield 17) by decide +kernel) (kd := 13) (sl := 1) (tc := 1) (fin := 1) (z := 0) (by decide +kernel) (by decide +kernel) (by decide +kernel)).trans <| bd_cg fun w4 hw4 =>
  (l_iconst (show gPG 247 14 = some (.iconst 3) by decide +kernel) (c := 3) (by decide +kernel)).trans <|
  (l_aald (show gPG 247 15 = some (.aaload) by decide +kernel) ).trans <| bd_cg fun w5 hw5 =>
  (l_iconst (show gPG 247 16 = some (.iconst 0) by decide +kernel) (c := 0) (by decide +kernel)).trans <|
  (l_aload_n (show gPG 247 17 = some (.aload_n 0) by decide +kernel) rfl jr_ref).trans <|
  (l_gR (show gPG 247 18 = some (.getfield 97) by decide +kernel) (kd := 13) (sl := 44) (tc := 1) (fin := 1) (z := 0) (by decide +kernel) (by decide +kernel) (by decide +kernel)).trans <| bd_cg fun w6 hw6 =>
  (l_iconst (show gPG 247 21 = some (.iconst 0) by decide +kernel) (c := 0) (by decide +kernel)).trans <|
  (l_bipush (show gPG 247 22 = some (.bipush 8) by decide +kernel) (c := 8) (by decide +kernel)).trans <|
  (l_acp (show gPG 247 24 = some (.invokestatic 143) by decide +kernel) (q3 := 99) (q4 := 0) (z := 19) (by decide +kernel) (by decide +kernel) (jr_aR hw5) (jr_gR hw6) cs0 (by decide +kernel)).trans <| bd_cg fun m7 hm7 =>
  (l_aload_n (show gPG 247 27 = some (.aload_n 0) by decide +kernel) rfl jr_ref).trans <|
  (l_gR (show gPG 247 28 = some (.getfield 20) by decide +kernel) (kd := 13) (sl := 2) (tc := 1) (fin := 1) (z := 0) (by decide +kernel) (by decide +kernel) (by decide +kernel)).trans <| bd_cg fun w8 hw8 =>
  (l_iconst (show gPG 247 31 = some (.iconst 3) by decide +kernel) (c := 3) (by decide +kernel)).trans <|
  (l_aald (show gPG 247 32 = some (.aaload) by decide +kernel) ).trans <| bd_cg fun w9 hw9 =>
  (l_iconst (show gPG 247 33 = some (.iconst 0) by decide +kernel) (c := 0) (by decide +kernel)).trans <|
  (l_aload_n (show gPG 247 34 = some (.aload_n 0) by decide +kernel) rfl jr_ref).trans <|
  (l_gR (show gPG 247 35 = some (.getfield 100) by decide +kernel) (kd := 13) (sl := 45) (tc := 1) (fin := 1) (z := 0) (by decide +kernel) (by decide +kernel) (by decide +kernel)).trans <| bd_cg fun w10 hw10 =>
  (l_iconst (show gPG 247 38 = some (.iconst 0) by decide +kernel) (c := 0) (by decide +kernel)).trans <|
  (l_bipush (show gPG 247 39 = some (.bipush 24) by decide +kernel) (c := 24) (by decide +kernel)).trans <|
  (l_acp (show gPG 247 41 = some (.invokestatic 143) by decide +kernel) (q3 := 99) (q4 := 0) (z := 19) (by decide +kernel) (by decide +kernel) (jr_aR hw9) (jr_gR hw10) cs0 (by decide +kernel)).trans <| bd_cg fun m11 hm11 =>
  (l_aload_n (show gPG 247 44 = some (.aload_n 0) by decide +kernel) rfl jr_ref).trans <|
  (l_gR (show gPG 247 45 = some (.getfield 23) by decide +kernel) (kd := 13) (sl := 3) (tc := 1) (fin := 1) (z := 0) (by decide +kernel) (by decide +kernel) (by decide +kernel)).trans <| bd_cg fun w12 hw12 =>
  (l_iconst (show gPG 247 48 = some (.iconst 3) by decide +kernel) (c := 3) (by decide +kernel)).trans <|
  (l_aald (show gPG 247 49 = some (.aaload) by decide +kernel) ).trans <| bd_cg fun w13 hw13 =>
  (l_iconst (show gPG 247 50 = some (.iconst 0) by decide +kernel) (c := 0) (by decide +kernel)).trans <|
  (l_aload_n (show gPG 247 51 = some (.aload_n 0) by decide +kernel) rfl jr_ref).trans <|
  (l_gR (show gPG 247 52 = some (.getfield 103) by decide +kernel) (kd := 13) (sl := 46) (tc := 1) (fin := 1) (z := 0) (by decide +kernel) (by decide +kernel) (by decide +kernel)).trans <| bd_cg fun w14 hw14 =>
  (l_iconst (show gPG 247 55 = some (.iconst 0) by decide +kernel) (c := 0) (by decide +kernel)).trans <|
  (l_bipush (show gPG 247 56 = some (.bipush 24) by decide +kernel) (c := 24) (by decide +kernel)).trans <|
  (l_acp (show gPG 247 58 = some (.invokestatic 143) by decide +kernel) (q3 := 99) (q4 := 0) (z := 19) (by decide +kernel) (by decide +kernel) (jr_aR hw13) (jr_gR hw14) cs0 (by decide +kernel)).trans <| bd_cg fun m15 hm15 =>
  (l_iconst (show gPG 247 61 = some (.iconst 0) by decide +kernel) (c := 0) (by decide +kernel)).trans <|
  l_istore_n (show gPG 247 62 = some (.istore_n 1) by decide +kernel) (ls := [.ref a, .retAddr 0]) (show (1 : Nat) < 2 by decide) (show _ = ([.ref a, .int 0] : List Value) from rfl)
theorem b247_63 (d : Nat) (μ : jM) (a : Nat) (i1 : Int32) : jR d 247 63 [.ref a, .int i1] [] μ = (if i1 < 24 then (jgR μ 13 47 (.ref a)).bind fun w1 => (jgR μ 13 5 (.ref a)).bind fun w2 => (jaR μ w2 3).bind fun w3 => (jaR μ w3 i1).bind fun w4 => (jsR μ w1 i1 w4).bind fun m5 => jR d 247 63 [.ref a, .int (i1 + 1)] [] m5 else some (none, μ)) :=
  (l_iload_n (show gPG 247 63 = some (.iload_n 1) by decide +kernel) rfl).trans <|
  (l_bipush (show gPG 247 64 = some (.bipush 24) by decide +kernel) (c := 24) (by decide +kernel)).trans <|
  (l_cmp (show gPG 247 66 = some (.if_icmp .ge 23) by decide +kernel) (t := 89) (by decide +kernel)).trans <| jm_ge.trans <| ite_cg (
  (l_aload_n (show gPG 247 69 = some (.aload_n 0) by decide +kernel) rfl jr_ref).trans <|
  (l_gR (show gPG 247 70 = some (.getfield 107) by decide +kernel) (kd := 13) (sl := 47) (tc := 1) (fin := 1) (z := 0) (by decide +kernel) (by decide +kernel) (by decide +kernel)).trans <| bd_cg fun w1 hw1 =>
  (l_iload_n (show gPG 247 73 = some (.iload_n 1) by decide +kernel) rfl).trans <|
  (l_aload_n (show gPG 247 74 = some (.aload_n 0) by decide +kernel) rfl jr_ref).trans <|
  (l_gR (show gPG 247 75 = some (.getfield 31) by decide +kernel) (kd := 13) (sl := 5) (tc := 1) (fin := 1) (z := 0) (by decide +kernel) (by decide +kernel) (by decide +kernel)).trans <| bd_cg fun w2 hw2 =>
  (l_iconst (show gPG 247 78 = some (.iconst 3) by decide +kernel) (c := 3) (by decide +kernel)).trans <|
  (l_aald (show gPG 247 79 = some (.aaload) by decide +kernel) ).trans <| bd_cg fun w3 hw3 =>
  (l_iload_n (show gPG 247 80 = some (.iload_n 1) by decide +kernel) rfl).trans <|
  (l_aald (show gPG 247 81 = some (.aaload) by decide +kernel) ).trans <| bd_cg fun w4 hw4 =>
  (l_aast (show gPG 247 82 = some (.aastore) by decide +kernel) ).trans <| bd_cg fun m5 hm5 =>
  (l_iinc (show gPG 247 83 = some (.iinc 1 1) by decide +kernel) (c := 1) (by decide +kernel) rfl (show _ = ([.ref a, .int (i1 + 1)] : List Value) from rfl)).trans <|
  l_goto (show gPG 247 86 = some (.goto (-23)) by decide +kernel) (t := 63) (by decide +kernel)) (
  l_ret (show gPG 247 89 = some (.return_) by decide +kernel) (by decide +kernel))
-- Ref.unlike
theorem b248_0 (d : Nat) (μ : jM) (a : Nat) : jR d 248 0 [.ref a, .retAddr 0, .retAddr 0, .retAddr 0, .retAddr 0, .retAddr 0, .retAddr 0, .retAddr 0] [] μ = jR d 248 4 [.ref a, .int 0, .int 0, .retAddr 0, .retAddr 0, .retAddr 0, .retAddr 0, .retAddr 0] [] μ :=
  (l_iconst (show gPG 248 0 = some (.iconst 0) by decide +kernel) (c := 0) (by decide +kernel)).trans <|
  (l_istore_n (show gPG 248 1 = some (.istore_n 1) by decide +kernel) (ls := [.ref a, .retAddr 0, .retAddr 0, .retAddr 0, .retAddr 0, .retAddr 0, .retAddr 0, .retAddr 0]) (show (1 : Nat) < 8 by decide) (show _ = ([.ref a, .int 0, .retAddr 0, .retAddr 0, .retAddr 0, .retAddr 0, .retAddr 0, .retAddr 0] : List Value) from rfl)).trans <|
  (l_iconst (show gPG 248 2 = some (.iconst 0) by decide +kernel) (c := 0) (by decide +kernel)).trans <|
  l_istore_n (show gPG 248 3 = some (.istore_n 2) by decide +kernel) (ls := [.ref a, .int 0, .retAddr 0, .retAddr 0, .retAddr 0, .retAddr 0, .retAddr 0, .retAddr 0]) (show (2 : Nat) < 8 by decide) (show _ = ([.ref a, .int 0, .int 0, .retAddr 0, .retAddr 0, .retAddr 0, .retAddr 0, .retAddr 0] : List Value) from rfl)
theorem b248_4 (d : Nat) (μ : jM) (a : Nat) (i1 : Int32) (i2 : Int32) (u3 : Value) (u4 : Value) (u5 : Value) (u6 : Value) (u7 : Value) : jR (d + 1) 248 4 [.ref a, .int i1, .int i2, u3, u4, u5, u6, u7] [] μ = (jgI μ 13 43 (.ref a)).bind fun x1 => (if i2 < x1 then (jgR μ 13 44 (.ref a)).bind fun w2 => (jaI μ w2 i2).bind fun x3 => (if jrecv μ 13 (.ref a) = true then (jC d 194 [.ref a, .int 3, .int x3] μ).bind fun p4 => jR (d + 1) 248 23 [.ref a, .int i1, .int i2, u3, u4, u5, u6, u7] (p4.1.toList ++ []) p4.2 else none) else some (some (.int i1), μ)) :=
  (l_iload_n (show gPG 248 4 = some (.iload_n 2) by decide +kernel) rfl).trans <|
  (l_aload_n (show gPG 248 5 = some (.aload_n 0) by decide +kernel) rfl jr_ref).trans <|
  (l_gI (show gPG 248 6 = some (.getfield 465) by decide +kernel) (kd := 13) (sl := 43) (tc := 0) (fin := 0) (z := 0) (by decide +kernel) (by decide +kernel) (by decide +kernel)).trans <| bd_cg fun x1 hx1 =>
  (l_cmp (show gPG 248 9 = some (.if_icmp .ge 151) by decide +kernel) (t := 160) (by decide +kernel)).trans <| jm_ge.trans <| ite_cg (
  (l_aload_n (show gPG 248 12 = some (.aload_n 0) by decide +kernel) rfl jr_ref).trans <|
  (l_iconst (show gPG 248 13 = some (.iconst 3) by decide +kernel) (c := 3) (by decide +kernel)).trans <|
  (l_aload_n (show gPG 248 14 = some (.aload_n 0) by decide +kernel) rfl jr_ref).trans <|
  (l_gR (show gPG 248 15 = some (.getfield 97) by decide +kernel) (kd := 13) (sl := 44) (tc := 1) (fin := 1) (z := 0) (by decide +kernel) (by decide +kernel) (by decide +kernel)).trans <| bd_cg fun w2 hw2 =>
  (l_iload_n (show gPG 248 18 = some (.iload_n 2) by decide +kernel) rfl).trans <|
  (l_iald (show gPG 248 19 = some (.iaload) by decide +kernel) ).trans <| bd_cg fun x3 hx3 =>
  l_callV (u := 1) (v := .ref a) (as := [.int 3, .int x3]) (show gPG 248 20 = some (jinvI 1 301) by decide +kernel) (by decide) (cc := 194) (na := 3) (kd := 13) (q4 := 0) (z := 10) (rest := []) (by decide +kernel) (by decide +kernel)  rfl (show (3 : Nat) ≤ 3 by decide) rfl cs0 (by decide +kernel) (cai (cai (cav jr_ref ca0)))) (
  (l_iload_n (show gPG 248 160 = some (.iload_n 1) by decide +kernel) rfl).trans <|
  l_iret1 (show gPG 248 161 = some (.ireturn) by decide +kernel) (by decide +kernel))
theorem b248_23 (d : Nat) (μ : jM) (a : Nat) (i1 : Int32) (i2 : Int32) (u3 : Value) (u4 : Value) (u5 : Value) (u6 : Value) (u7 : Value) (s0 : Int32) : jR d 248 23 [.ref a, .int i1, .int i2, u3, u4, u5, u6, u7] [.int s0] μ = jR d 248 27 [.ref a, .int i1, .int i2, .int s0, .int 0, u5, u6, u7] [] μ :=
  (l_istore_n (show gPG 248 23 = some (.istore_n 3) by decide +kernel) (ls := [.ref a, .int i1, .int i2, u3, u4, u5, u6, u7]) (show (3 : Nat) < 8 by decide) (show _ = ([.ref a, .int i1, .int i2, .int s0, u4, u5, u6, u7] : List Value) from rfl)).trans <|
  (l_iconst (show gPG 248 24 = some (.iconst 0) by decide +kernel) (c := 0) (by decide +kernel)).trans <|
  l_istore (show gPG 248 25 = some (.istore 4) by decide +kernel) (ls := [.ref a, .int i1, .int i2, .int s0, u4, u5, u6, u7]) (show (4 : Nat) < 8 by decide) (show _ = ([.ref a, .int i1, .int i2, .int s0, .int 0, u5, u6, u7] : List Value) from rfl)
theorem b248_27 (d : Nat) (μ : jM) (a : Nat) (i1 : Int32) (i2 : Int32) (i3 : Int32) (i4 : Int32) (u5 : Value) (u6 : Value) (u7 : Value) : jR (d + 1) 248 27 [.ref a, .int i1, .int i2, .int i3, .int i4, u5, u6, u7] [] μ = (if i4 < 3 then (jgR μ 13 45 (.ref a)).bind fun w1 => (jaI μ w1 ((3 * i2) + i4)).bind fun x2 => (jgR μ 13 2 (.ref a)).bind fun w3 => (jaR μ w3 3).bind fun w4 => (jaI μ w4 ((3 * i3) + i4)).bind fun x5 => (if x2 = x5 then (jgR μ 13 45 (.ref a)).bind fun w6 => (jaI μ w6 ((3 * i2) + i4)).bind fun x7 => (if x7 = 0 then jR (d + 1) 248 133 [.ref a, .int i1, .int i2, .int i3, .int i4, .int ((3 * i2) + i4), .int ((3 * i3) + i4), u7] [] μ else (jgR μ 13 45 (.ref a)).bind fun w8 => (jaI μ w8 ((3 * i2) + i4)).bind fun x9 => (if x9 = 1 then (jgR μ 13 46 (.ref a)).bind fun w16 => (jaI μ w16 ((3 * i2) + i4)).bind fun x17 => (jgR μ 13 3 (.ref a)).bind fun w18 => (jaR μ w18 3).bind fun w19 => (jaI μ w19 ((3 * i3) + i4)).bind fun x20 => (if x17 = x20 then jR (d + 1) 248 133 [.ref a, .int i1, .int i2, .int i3, .int i4, .int ((3 * i2) + i4), .int ((3 * i3) + i4), u7] [] μ else jR (d + 1) 248 137 [.ref a, .int i1, .int i2, .int i3, .int i4, .int ((3 * i2) + i4), .int ((3 * i3) + i4), u7] [] μ) else (jgR μ 13 47 (.ref a)).bind fun w10 => (jaR μ w10 ((3 * i2) + i4)).bind fun w11 => (jgR μ 13 5 (.ref a)).bind fun w12 => (jaR μ w12 3).bind fun w13 => (jaR μ w13 ((3 * i3) + i4)).bind fun w14 => (jC d 231 [w11, w14] μ).bind fun p15 => jR (d + 1) 248 130 [.ref a, .int i1, .int i2, .int i3, .int i4, .int ((3 * i2) + i4), .int ((3 * i3) + i4), u7] (p15.1.toList ++ []) p15.2)) else jR (d + 1) 248 137 [.ref a, .int i1, .int i2, .int i3, .int i4, .int ((3 * i2) + i4), .int ((3 * i3) + i4), u7] [] μ) else jR (d + 1) 248 4 [.ref a, .int i1, .int (i2 + 1), .int i3, .int i4, u5, u6, u7] [] μ) :=
  (l_iload (show gPG 248 27 = some (.iload 4) by decide +kernel) rfl).trans <|
  (l_iconst (show gPG 248 29 = some (.iconst 3) by decide +kernel) (c := 3) (by decide +kernel)).trans <|
  (l_cmp (show gPG 248 30 = some (.if_icmp .ge 124) by decide +kernel) (t := 154) (by decide +kernel)).trans <| jm_ge.trans <| ite_cg (
  (l_iconst (show gPG 248 33 = some (.iconst 3) by decide +kernel) (c := 3) (by decide +kernel)).trans <|
  (l_iload_n (show gPG 248 34 = some (.iload_n 2) by decide +kernel) rfl).trans <|
  (l_imul (show gPG 248 35 = some (.imul) by decide +kernel) ).trans <|
  (l_iload (show gPG 248 36 = some (.iload 4) by decide +kernel) rfl).trans <|
  (l_iadd (show gPG 248 38 = some (.iadd) by decide +kernel) ).trans <|
  (l_istore (show gPG 248 39 = some (.istore 5) by decide +kernel) (ls := [.ref a, .int i1, .int i2, .int i3, .int i4, u5, u6, u7]) (show (5 : Nat) < 8 by decide) (show _ = ([.ref a, .int i1, .int i2, .int i3, .int i4, .int ((3 * i2) + i4), u6, u7] : List Value) from rfl)).trans <|
  (l_iconst (show gPG 248 41 = some (.iconst 3) by decide +kernel) (c := 3) (by decide +kernel)).trans <|
  (l_iload_n (show gPG 248 42 = some (.iload_n 3) by decide +kernel) rfl).trans <|
  (l_imul (show gPG 248 43 = some (.imul) by decide +kernel) ).trans <|
  (l_iload (show gPG 248 44 = some (.iload 4) by decide +kernel) rfl).trans <|
  (l_iadd (show gPG 248 46 = some (.iadd) by decide +kernel) ).trans <|
  (l_istore (show gPG 248 47 = some (.istore 6) by decide +kernel) (ls := [.ref a, .int i1, .int i2, .int i3, .int i4, .int ((3 * i2) + i4), u6, u7]) (show (6 : Nat) < 8 by decide) (show _ = ([.ref a, .int i1, .int i2, .int i3, .int i4, .int ((3 * i2) + i4), .int ((3 * i3) + i4), u7] : List Value) from rfl)).trans <|
  (l_aload_n (show gPG 248 49 = some (.aload_n 0) by decide +kernel) rfl jr_ref).trans <|
  (l_gR (show gPG 248 50 = some (.getfield 100) by decide +kernel) (kd := 13) (sl := 45) (tc := 1) (fin := 1) (z := 0) (by decide +kernel) (by decide +kernel) (by decide +kernel)).trans <| bd_cg fun w1 hw1 =>
  (l_iload (show gPG 248 53 = some (.iload 5) by decide +kernel) rfl).trans <|
  (l_iald (show gPG 248 55 = some (.iaload) by decide +kernel) ).trans <| bd_cg fun x2 hx2 =>
  (l_aload_n (show gPG 248 56 = some (.aload_n 0) by decide +kernel) rfl jr_ref).trans <|
  (l_gR (show gPG 248 57 = some (.getfield 20) by decide +kernel) (kd := 13) (sl := 2) (tc := 1) (fin := 1) (z := 0) (by decide +kernel) (by decide +kernel) (by decide +kernel)).trans <| bd_cg fun w3 hw3 =>
  (l_iconst (show gPG 248 60 = some (.iconst 3) by decide +kernel) (c := 3) (by decide +kernel)).trans <|
  (l_aald (show gPG 248 61 = some (.aaload) by decide +kernel) ).trans <| bd_cg fun w4 hw4 =>
  (l_iload (show gPG 248 62 = some (.iload 6) by decide +kernel) rfl).trans <|
  (l_iald (show gPG 248 64 = some (.iaload) by decide +kernel) ).trans <| bd_cg fun x5 hx5 =>
  (l_cmp (show gPG 248 65 = some (.if_icmp .ne 72) by decide +kernel) (t := 137) (by decide +kernel)).trans <| jm_ne.trans <| ite_cg (
  (l_aload_n (show gPG 248 68 = some (.aload_n 0) by decide +kernel) rfl jr_ref).trans <|
  (l_gR (show gPG 248 69 = some (.getfield 100) by decide +kernel) (kd := 13) (sl := 45) (tc := 1) (fin := 1) (z := 0) (by decide +kernel) (by decide +kernel) (by decide +kernel)).trans <| bd_cg fun w6 hw6 =>
  (l_iload (show gPG 248 72 = some (.iload 5) by decide +kernel) rfl).trans <|
  (l_iald (show gPG 248 74 = some (.iaload) by decide +kernel) ).trans <| bd_cg fun x7 hx7 =>
  (l_cmp0 (show gPG 248 75 = some (.ifCond .eq 58) by decide +kernel) (t := 133) (by decide +kernel)).trans <| jm_eq.trans <| ite_cg (
  rfl) (
  (l_aload_n (show gPG 248 78 = some (.aload_n 0) by decide +kernel) rfl jr_ref).trans <|
  (l_gR (show gPG 248 79 = some (.getfield 100) by decide +kernel) (kd := 13) (sl := 45) (tc := 1) (fin := 1) (z := 0) (by decide +kernel) (by decide +kernel) (by decide +kernel)).trans <| bd_cg fun w8 hw8 =>
  (l_iload (show gPG 248 82 = some (.iload 5) by decide +kernel) rfl).trans <|
  (l_iald (show gPG 248 84 = some (.iaload) by decide +kernel) ).trans <| bd_cg fun x9 hx9 =>
  (l_iconst (show gPG 248 85 = some (.iconst 1) by decide +kernel) (c := 1) (by decide +kernel)).trans <|
  (l_cmp (show gPG 248 86 = some (.if_icmp .ne 25) by decide +kernel) (t := 111) (by decide +kernel)).trans <| jm_ne.trans <| ite_cg (
  (l_aload_n (show gPG 248 89 = some (.aload_n 0) by decide +kernel) rfl jr_ref).trans <|
  (l_gR (show gPG 248 90 = some (.getfield 103) by decide +kernel) (kd := 13) (sl := 46) (tc := 1) (fin := 1) (z := 0) (by decide +kernel) (by decide +kernel) (by decide +kernel)).trans <| bd_cg fun w16 hw16 =>
  (l_iload (show gPG 248 93 = some (.iload 5) by decide +kernel) rfl).trans <|
  (l_iald (show gPG 248 95 = some (.iaload) by decide +kernel) ).trans <| bd_cg fun x17 hx17 =>
  (l_aload_n (show gPG 248 96 = some (.aload_n 0) by decide +kernel) rfl jr_ref).trans <|
  (l_gR (show gPG 248 97 = some (.getfield 23) by decide +kernel) (kd := 13) (sl := 3) (tc := 1) (fin := 1) (z := 0) (by decide +kernel) (by decide +kernel) (by decide +kernel)).trans <| bd_cg fun w18 hw18 =>
  (l_iconst (show gPG 248 100 = some (.iconst 3) by decide +kernel) (c := 3) (by decide +kernel)).trans <|
  (l_aald (show gPG 248 101 = some (.aaload) by decide +kernel) ).trans <| bd_cg fun w19 hw19 =>
  (l_iload (show gPG 248 102 = some (.iload 6) by decide +kernel) rfl).trans <|
  (l_iald (show gPG 248 104 = some (.iaload) by decide +kernel) ).trans <| bd_cg fun x20 hx20 =>
  (l_cmp (show gPG 248 105 = some (.if_icmp .ne 32) by decide +kernel) (t := 137) (by decide +kernel)).trans <| jm_ne.trans <| ite_cg (
  l_goto (show gPG 248 108 = some (.goto 25) by decide +kernel) (t := 133) (by decide +kernel)) (
  rfl)) (
  (l_aload_n (show gPG 248 111 = some (.aload_n 0) by decide +kernel) rfl jr_ref).trans <|
  (l_gR (show gPG 248 112 = some (.getfield 107) by decide +kernel) (kd := 13) (sl := 47) (tc := 1) (fin := 1) (z := 0) (by decide +kernel) (by decide +kernel) (by decide +kernel)).trans <| bd_cg fun w10 hw10 =>
  (l_iload (show gPG 248 115 = some (.iload 5) by decide +kernel) rfl).trans <|
  (l_aald (show gPG 248 117 = some (.aaload) by decide +kernel) ).trans <| bd_cg fun w11 hw11 =>
  (l_aload_n (show gPG 248 118 = some (.aload_n 0) by decide +kernel) rfl jr_ref).trans <|
  (l_gR (show gPG 248 119 = some (.getfield 31) by decide +kernel) (kd := 13) (sl := 5) (tc := 1) (fin := 1) (z := 0) (by decide +kernel) (by decide +kernel) (by decide +kernel)).trans <| bd_cg fun w12 hw12 =>
  (l_iconst (show gPG 248 122 = some (.iconst 3) by decide +kernel) (c := 3) (by decide +kernel)).trans <|
  (l_aald (show gPG 248 123 = some (.aaload) by decide +kernel) ).trans <| bd_cg fun w13 hw13 =>
  (l_iload (show gPG 248 124 = some (.iload 6) by decide +kernel) rfl).trans <|
  (l_aald (show gPG 248 126 = some (.aaload) by decide +kernel) ).trans <| bd_cg fun w14 hw14 =>
  l_callS (u := 2) (as := [w11, w14]) (show gPG 248 127 = some (jinvI 2 411) by decide +kernel) (by decide) (cc := 231) (na := 2) (q4 := 0) (z := 12) (rest := []) (by decide +kernel) (by decide +kernel)  rfl (show (2 : Nat) ≤ 2 by decide) rfl cs0 (by decide +kernel) (cav (jr_aR hw14) (cav (jr_aR hw11) ca0)) (fun e => absurd e (by decide))))) (
  rfl)) (
  (l_iinc (show gPG 248 154 = some (.iinc 2 1) by decide +kernel) (c := 1) (by decide +kernel) rfl (show _ = ([.ref a, .int i1, .int (i2 + 1), .int i3, .int i4, u5, u6, u7] : List Value) from rfl)).trans <|
  l_goto (show gPG 248 157 = some (.goto (-153)) by decide +kernel) (t := 4) (by decide +kernel))
theorem b248_130 (d : Nat) (μ : jM) (a : Nat) (i1 : Int32) (i2 : Int32) (i3 : Int32) (i4 : Int32) (u5 : Value) (u6 : Value) (u7 : Value) (s0 : Int32) : jR d 248 130 [.ref a, .int i1, .int i2, .int i3, .int i4, u5, u6, u7] [.int s0] μ = (if s0 = 0 then jR d 248 137 [.ref a, .int i1, .int i2, .int i3, .int i4, u5, u6, u7] [] μ else jR d 248 133 [.ref a, .int i1, .int i2, .int i3, .int i4, u5, u6, u7] [] μ) :=
  (l_cmp0 (show gPG 248 130 = some (.ifCond .eq 7) by decide +kernel) (t := 137) (by decide +kernel)).trans <| jm_eq.trans <| ite_cg (
  rfl) (
  rfl)
theorem b248_133 (d : Nat) (μ : jM) (a : Nat) (i1 : Int32) (i2 : Int32) (i3 : Int32) (i4 : Int32) (u5 : Value) (u6 : Value) (u7 : Value) : jR d 248 133 [.ref a, .int i1, .int i2, .int i3, .int i4, u5, u6, u7] [] μ = jR d 248 138 [.ref a, .int i1, .int i2, .int i3, .int i4, u5, u6, u7] [.int 1] μ :=
  (l_iconst (show gPG 248 133 = some (.iconst 1) by decide +kernel) (c := 1) (by decide +kernel)).trans <|
  l_goto (show gPG 248 134 = some (.goto 4) by decide +kernel) (t := 138) (by decide +kernel)
theorem b248_137 (d : Nat) (μ : jM) (a : Nat) (i1 : Int32) (i2 : Int32) (i3 : Int32) (i4 : Int32) (u5 : Value) (u6 : Value) (u7 : Value) : jR d 248 137 [.ref a, .int i1, .int i2, .int i3, .int i4, u5, u6, u7] [] μ = jR d 248 138 [.ref a, .int i1, .int i2, .int i3, .int i4, u5, u6, u7] [.int 0] μ :=
  l_iconst (show gPG 248 137 = some (.iconst 0) by decide +kernel) (c := 0) (by decide +kernel)
theorem b248_138 (d : Nat) (μ : jM) (a : Nat) (i1 : Int32) (i2 : Int32) (i3 : Int32) (i4 : Int32) (u5 : Value) (u6 : Value) (u7 : Value) (s0 : Int32) : jR d 248 138 [.ref a, .int i1, .int i2, .int i3, .int i4, u5, u6, u7] [.int s0] μ = (if s0 = 0 then jR d 248 148 [.ref a, .int (i1 + 1), .int i2, .int i3, .int i4, u5, u6, .int s0] [] μ else jR d 248 148 [.ref a, .int i1, .int i2, .int i3, .int i4, u5, u6, .int s0] [] μ) :=
  (l_istore (show gPG 248 138 = some (.istore 7) by decide +kernel) (ls := [.ref a, .int i1, .int i2, .int i3, .int i4, u5, u6, u7]) (show (7 : Nat) < 8 by decide) (show _ = ([.ref a, .int i1, .int i2, .int i3, .int i4, u5, u6, .int s0] : List Value) from rfl)).trans <|
  (l_iload (show gPG 248 140 = some (.iload 7) by decide +kernel) rfl).trans <|
  (l_cmp0 (show gPG 248 142 = some (.ifCond .ne 6) by decide +kernel) (t := 148) (by decide +kernel)).trans <| jm_ne.trans <| ite_cg (
  l_iinc (show gPG 248 145 = some (.iinc 1 1) by decide +kernel) (c := 1) (by decide +kernel) rfl (show _ = ([.ref a, .int (i1 + 1), .int i2, .int i3, .int i4, u5, u6, .int s0] : List Value) from rfl)) (
  rfl)
theorem b248_148 (d : Nat) (μ : jM) (a : Nat) (i1 : Int32) (i2 : Int32) (i3 : Int32) (i4 : Int32) (u5 : Value) (u6 : Value) (u7 : Value) : jR d 248 148 [.ref a, .int i1, .int i2, .int i3, .int i4, u5, u6, u7] [] μ = jR d 248 27 [.ref a, .int i1, .int i2, .int i3, .int (i4 + 1), u5, u6, u7] [] μ :=
  (l_iinc (show gPG 248 148 = some (.iinc 4 1) by decide +kernel) (c := 1) (by decide +kernel) rfl (show _ = ([.ref a, .int i1, .int i2, .int i3, .int (i4 + 1), u5, u6, u7] : List Value) from rfl)).trans <|
  l_goto (show gPG 248 151 = some (.goto (-124)) by decide +kernel) (t := 27) (by decide +kernel)
-- Ref.wake
theorem b249_0 (d : Nat) (μ : jM) (a : Nat) : jR d 249 0 [.ref a, .retAddr 0] [] μ = jR d 249 2 [.ref a, .int 0] [] μ :=
  (l_iconst (show gPG 249 0 = some (.iconst 0) by decide +kernel) (c := 0) (by decide +kernel)).trans <|
  l_istore_n (show gPG 249 1 = some (.istore_n 1) by decide +kernel) (ls := [.ref a, .retAddr 0]) (show (1 : Nat) < 2 by decide) (show _ = ([.ref a, .int 0] : List Value) from rfl)
theorem b249_2 (d : Nat) (μ : jM) (a : Nat) (i1 : Int32) : jR (d + 1) 249 2 [.ref a, .int i1] [] μ = (if i1 < 4 then (if jrecv μ 13 (.ref a) = true then (jC d 162 [.ref a, .int 13, .int i1] μ).bind fun p6 => jR (d + 1) 249 14 [.ref a, .int i1] (p6.1.toList ++ []) p6.2 else none) else (jgR μ 13 41 (.ref a)).bind fun w1 => (jaI μ w1 0).bind fun x2 => (jpI μ 13 35 0 (.ref a) x2).bind fun m3 => (jgR m3 13 41 (.ref a)).bind fun w4 => (jaI m3 w4 1).bind fun x5 => (if x5 = 1 then jR (d + 1) 249 46 [.ref a, .int i1] [.int 1, .ref a] m3 else jR (d + 1) 249 46 [.ref a, .int i1] [.int 0, .ref a] m3)) :=
  (l_iload_n (show gPG 249 2 = some (.iload_n 1) by decide +kernel) rfl).trans <|
  (l_iconst (show gPG 249 3 = some (.iconst 4) by decide +kernel) (c := 4) (by decide +kernel)).trans <|
  (l_cmp (show gPG 249 4 = some (.if_icmp .ge 16) by decide +kernel) (t := 20) (by decide +kernel)).trans <| jm_ge.trans <| ite_cg (
  (l_aload_n (show gPG 249 7 = some (.aload_n 0) by decide +kernel) rfl jr_ref).trans <|
  (l_bipush (show gPG 249 8 = some (.bipush 13) by decide +kernel) (c := 13) (by decide +kernel)).trans <|
  (l_iload_n (show gPG 249 10 = some (.iload_n 1) by decide +kernel) rfl).trans <|
  l_callV (u := 1) (v := .ref a) (as := [.int 13, .int i1]) (show gPG 249 11 = some (jinvI 1 170) by decide +kernel) (by decide) (cc := 162) (na := 3) (kd := 13) (q4 := 0) (z := 10) (rest := []) (by decide +kernel) (by decide +kernel)  rfl (show (3 : Nat) ≤ 3 by decide) rfl cs0 (by decide +kernel) (cai (cai (cav jr_ref ca0)))) (
  (l_aload_n (show gPG 249 20 = some (.aload_n 0) by decide +kernel) rfl jr_ref).trans <|
  (l_aload_n (show gPG 249 21 = some (.aload_n 0) by decide +kernel) rfl jr_ref).trans <|
  (l_gR (show gPG 249 22 = some (.getfield 91) by decide +kernel) (kd := 13) (sl := 41) (tc := 1) (fin := 1) (z := 0) (by decide +kernel) (by decide +kernel) (by decide +kernel)).trans <| bd_cg fun w1 hw1 =>
  (l_iconst (show gPG 249 25 = some (.iconst 0) by decide +kernel) (c := 0) (by decide +kernel)).trans <|
  (l_iald (show gPG 249 26 = some (.iaload) by decide +kernel) ).trans <| bd_cg fun x2 hx2 =>
  (l_pI (show gPG 249 27 = some (.putfield 163) by decide +kernel) (kd := 13) (sl := 35) (tc := 0) (fin := 0) (z := 0) (by decide +kernel) (by decide +kernel) (by decide +kernel)).trans <| bd_cg fun m3 hm3 =>
  (l_aload_n (show gPG 249 30 = some (.aload_n 0) by decide +kernel) rfl jr_ref).trans <|
  (l_aload_n (show gPG 249 31 = some (.aload_n 0) by decide +kernel) rfl jr_ref).trans <|
  (l_gR (show gPG 249 32 = some (.getfield 91) by decide +kernel) (kd := 13) (sl := 41) (tc := 1) (fin := 1) (z := 0) (by decide +kernel) (by decide +kernel) (by decide +kernel)).trans <| bd_cg fun w4 hw4 =>
  (l_iconst (show gPG 249 35 = some (.iconst 1) by decide +kernel) (c := 1) (by decide +kernel)).trans <|
  (l_iald (show gPG 249 36 = some (.iaload) by decide +kernel) ).trans <| bd_cg fun x5 hx5 =>
  (l_iconst (show gPG 249 37 = some (.iconst 1) by decide +kernel) (c := 1) (by decide +kernel)).trans <|
  (l_cmp (show gPG 249 38 = some (.if_icmp .ne 7) by decide +kernel) (t := 45) (by decide +kernel)).trans <| jm_ne.trans <| ite_cg (
  (l_iconst (show gPG 249 41 = some (.iconst 1) by decide +kernel) (c := 1) (by decide +kernel)).trans <|
  l_goto (show gPG 249 42 = some (.goto 4) by decide +kernel) (t := 46) (by decide +kernel)) (
  l_iconst (show gPG 249 45 = some (.iconst 0) by decide +kernel) (c := 0) (by decide +kernel)))
theorem b249_14 (d : Nat) (μ : jM) (a : Nat) (i1 : Int32) : jR d 249 14 [.ref a, .int i1] [] μ = jR d 249 2 [.ref a, .int (i1 + 1)] [] μ :=
  (l_iinc (show gPG 249 14 = some (.iinc 1 1) by decide +kernel) (c := 1) (by decide +kernel) rfl (show _ = ([.ref a, .int (i1 + 1)] : List Value) from rfl)).trans <|
  l_goto (show gPG 249 17 = some (.goto (-15)) by decide +kernel) (t := 2) (by decide +kernel)
theorem b249_46 (d : Nat) (μ : jM) (a : Nat) (u1 : Value) (s0 : Value) (s1 : Int32) (hs0 : jisref s0 = true) : jR (d + 1) 249 46 [.ref a, u1] [.int s1, s0] μ = (jpI μ 13 36 2 s0 s1).bind fun m1 => (jgR m1 13 41 (.ref a)).bind fun w2 => (jgR m1 13 37 (.ref a)).bind fun w3 => (jcp m1 w2 2 w3 0 80).bind fun m4 => (jgR m4 13 41 (.ref a)).bind fun w5 => (jgR m4 13 38 (.ref a)).bind fun w6 => (jcp m4 w5 82 w6 0 80).bind fun m7 => (jgR m7 13 41 (.ref a)).bind fun w8 => (jgR m7 13 39 (.ref a)).bind fun w9 => (jcp m7 w8 162 w9 0 80).bind fun m10 => (jgR m10 13 42 (.ref a)).bind fun w11 => (jgR m10 13 40 (.ref a)).bind fun w12 => (jcp m10 w11 0 w12 0 80).bind fun m13 => some (none, m13) :=
  (l_pI (show gPG 249 46 = some (.putfield 166) by decide +kernel) (kd := 13) (sl := 36) (tc := 2) (fin := 0) (z := 0) (by decide +kernel) (by decide +kernel) (by decide +kernel)).trans <| bd_cg fun m1 hm1 =>
  (l_aload_n (show gPG 249 49 = some (.aload_n 0) by decide +kernel) rfl jr_ref).trans <|
  (l_gR (show gPG 249 50 = some (.getfield 91) by decide +kernel) (kd := 13) (sl := 41) (tc := 1) (fin := 1) (z := 0) (by decide +kernel) (by decide +kernel) (by decide +kernel)).trans <| bd_cg fun w2 hw2 =>
  (l_iconst (show gPG 249 53 = some (.iconst 2) by decide +kernel) (c := 2) (by decide +kernel)).trans <|
  (l_aload_n (show gPG 249 54 = some (.aload_n 0) by decide +kernel) rfl jr_ref).trans <|
  (l_gR (show gPG 249 55 = some (.getfield 79) by decide +kernel) (kd := 13) (sl := 37) (tc := 1) (fin := 1) (z := 0) (by decide +kernel) (by decide +kernel) (by decide +kernel)).trans <| bd_cg fun w3 hw3 =>
  (l_iconst (show gPG 249 58 = some (.iconst 0) by decide +kernel) (c := 0) (by decide +kernel)).trans <|
  (l_bipush (show gPG 249 59 = some (.bipush 80) by decide +kernel) (c := 80) (by decide +kernel)).trans <|
  (l_acp (show gPG 249 61 = some (.invokestatic 143) by decide +kernel) (q3 := 99) (q4 := 0) (z := 19) (by decide +kernel) (by decide +kernel) (jr_gR hw2) (jr_gR hw3) cs0 (by decide +kernel)).trans <| bd_cg fun m4 hm4 =>
  (l_aload_n (show gPG 249 64 = some (.aload_n 0) by decide +kernel) rfl jr_ref).trans <|
  (l_gR (show gPG 249 65 = some (.getfield 91) by decide +kernel) (kd := 13) (sl := 41) (tc := 1) (fin := 1) (z := 0) (by decide +kernel) (by decide +kernel) (by decide +kernel)).trans <| bd_cg fun w5 hw5 =>
  (l_bipush (show gPG 249 68 = some (.bipush 82) by decide +kernel) (c := 82) (by decide +kernel)).trans <|
  (l_aload_n (show gPG 249 70 = some (.aload_n 0) by decide +kernel) rfl jr_ref).trans <|
  (l_gR (show gPG 249 71 = some (.getfield 82) by decide +kernel) (kd := 13) (sl := 38) (tc := 1) (fin := 1) (z := 0) (by decide +kernel) (by decide +kernel) (by decide +kernel)).trans <| bd_cg fun w6 hw6 =>
  (l_iconst (show gPG 249 74 = some (.iconst 0) by decide +kernel) (c := 0) (by decide +kernel)).trans <|
  (l_bipush (show gPG 249 75 = some (.bipush 80) by decide +kernel) (c := 80) (by decide +kernel)).trans <|
  (l_acp (show gPG 249 77 = some (.invokestatic 143) by decide +kernel) (q3 := 99) (q4 := 0) (z := 19) (by decide +kernel) (by decide +kernel) (jr_gR hw5) (jr_gR hw6) cs0 (by decide +kernel)).trans <| bd_cg fun m7 hm7 =>
  (l_aload_n (show gPG 249 80 = some (.aload_n 0) by decide +kernel) rfl jr_ref).trans <|
  (l_gR (show gPG 249 81 = some (.getfield 91) by decide +kernel) (kd := 13) (sl := 41) (tc := 1) (fin := 1) (z := 0) (by decide +kernel) (by decide +kernel) (by decide +kernel)).trans <| bd_cg fun w8 hw8 =>
  (l_sipush (show gPG 249 84 = some (.sipush 162) by decide +kernel) (c := 162) (by decide +kernel)).trans <|
  (l_aload_n (show gPG 249 87 = some (.aload_n 0) by decide +kernel) rfl jr_ref).trans <|
  (l_gR (show gPG 249 88 = some (.getfield 85) by decide +kernel) (kd := 13) (sl := 39) (tc := 1) (fin := 1) (z := 0) (by decide +kernel) (by decide +kernel) (by decide +kernel)).trans <| bd_cg fun w9 hw9 =>
  (l_iconst (show gPG 249 91 = some (.iconst 0) by decide +kernel) (c := 0) (by decide +kernel)).trans <|
  (l_bipush (show gPG 249 92 = some (.bipush 80) by decide +kernel) (c := 80) (by decide +kernel)).trans <|
  (l_acp (show gPG 249 94 = some (.invokestatic 143) by decide +kernel) (q3 := 99) (q4 := 0) (z := 19) (by decide +kernel) (by decide +kernel) (jr_gR hw8) (jr_gR hw9) cs0 (by decide +kernel)).trans <| bd_cg fun m10 hm10 =>
  (l_aload_n (show gPG 249 97 = some (.aload_n 0) by decide +kernel) rfl jr_ref).trans <|
  (l_gR (show gPG 249 98 = some (.getfield 94) by decide +kernel) (kd := 13) (sl := 42) (tc := 1) (fin := 1) (z := 0) (by decide +kernel) (by decide +kernel) (by decide +kernel)).trans <| bd_cg fun w11 hw11 =>
  (l_iconst (show gPG 249 101 = some (.iconst 0) by decide +kernel) (c := 0) (by decide +kernel)).trans <|
  (l_aload_n (show gPG 249 102 = some (.aload_n 0) by decide +kernel) rfl jr_ref).trans <|
  (l_gR (show gPG 249 103 = some (.getfield 88) by decide +kernel) (kd := 13) (sl := 40) (tc := 1) (fin := 1) (z := 0) (by decide +kernel) (by decide +kernel) (by decide +kernel)).trans <| bd_cg fun w12 hw12 =>
  (l_iconst (show gPG 249 106 = some (.iconst 0) by decide +kernel) (c := 0) (by decide +kernel)).trans <|
  (l_bipush (show gPG 249 107 = some (.bipush 80) by decide +kernel) (c := 80) (by decide +kernel)).trans <|
  (l_acp (show gPG 249 109 = some (.invokestatic 143) by decide +kernel) (q3 := 99) (q4 := 0) (z := 19) (by decide +kernel) (by decide +kernel) (jr_gR hw11) (jr_gR hw12) cs0 (by decide +kernel)).trans <| bd_cg fun m13 hm13 =>
  l_ret (show gPG 249 112 = some (.return_) by decide +kernel) (by decide +kernel)
-- Ref.drawn
theorem b250_0 (d : Nat) (μ : jM) (a : Nat) (i1 : Int32) (i2 : Int32) : jR (d + 1) 250 0 [.ref a, .int i1, .int i2] [] μ = (jC d 165 [.int i2, .int 0, .int 20] μ).bind fun p1 => jR (d + 1) 250 7 [.ref a, .int i1, .int i2] (p1.1.toList ++ []) p1.2 :=
  (l_iload_n (show gPG 250 0 = some (.iload_n 2) by decide +kernel) rfl).trans <|
  (l_iconst (show gPG 250 1 = some (.iconst 0) by decide +kernel) (c := 0) (by decide +kernel)).trans <|
  (l_bipush (show gPG 250 2 = some (.bipush 20) by decide +kernel) (c := 20) (by decide +kernel)).trans <|
  l_callS (u := 2) (as := [.int i2, .int 0, .int 20]) (show gPG 250 4 = some (jinvI 2 125) by decide +kernel) (by decide) (cc := 165) (na := 3) (q4 := 0) (z := 12) (rest := []) (by decide +kernel) (by decide +kernel)  rfl (show (3 : Nat) ≤ 3 by decide) rfl cs0 (by decide +kernel) (cai (cai (cai ca0))) (fun e => absurd e (by decide))
theorem b250_7 (d : Nat) (μ : jM) (a : Nat) (i1 : Int32) (i2 : Int32) (s0 : Int32) : jR (d + 1) 250 7 [.ref a, .int i1, .int i2] [.int s0] μ = (if s0 = 0 then jR (d + 1) 250 21 [.ref a, .int i1, .int i2] [.int (-2)] μ else (if jrecv μ 13 (.ref a) = true then (jC d 251 [.ref a, .int i1, .int i2] μ).bind fun p1 => jR (d + 1) 250 16 [.ref a, .int i1, .int i2] (p1.1.toList ++ []) p1.2 else none)) :=
  (l_cmp0 (show gPG 250 7 = some (.ifCond .eq 12) by decide +kernel) (t := 19) (by decide +kernel)).trans <| jm_eq.trans <| ite_cg (
  l_bipush (show gPG 250 19 = some (.bipush (-2)) by decide +kernel) (c := (-2)) (by decide +kernel)) (
  (l_aload_n (show gPG 250 10 = some (.aload_n 0) by decide +kernel) rfl jr_ref).trans <|
  (l_iload_n (show gPG 250 11 = some (.iload_n 1) by decide +kernel) rfl).trans <|
  (l_iload_n (show gPG 250 12 = some (.iload_n 2) by decide +kernel) rfl).trans <|
  l_callV (u := 1) (v := .ref a) (as := [.int i1, .int i2]) (show gPG 250 13 = some (jinvI 1 487) by decide +kernel) (by decide) (cc := 251) (na := 3) (kd := 13) (q4 := 0) (z := 10) (rest := []) (by decide +kernel) (by decide +kernel)  rfl (show (3 : Nat) ≤ 3 by decide) rfl cs0 (by decide +kernel) (cai (cai (cav jr_ref ca0))))
theorem b250_16 (d : Nat) (μ : jM) (u0 : Value) (u1 : Value) (u2 : Value) (s0 : Int32) : jR d 250 16 [u0, u1, u2] [.int s0] μ = jR d 250 21 [u0, u1, u2] [.int s0] μ :=
  l_goto (show gPG 250 16 = some (.goto 5) by decide +kernel) (t := 21) (by decide +kernel)
theorem b250_21 (d : Nat) (μ : jM) (u0 : Value) (u1 : Value) (u2 : Value) (s0 : Int32) : jR d 250 21 [u0, u1, u2] [.int s0] μ = some (some (.int s0), μ) :=
  l_iret1 (show gPG 250 21 = some (.ireturn) by decide +kernel) (by decide +kernel)
-- Ref.byLot
theorem b251_0 (d : Nat) (μ : jM) (a : Nat) (i1 : Int32) (i2 : Int32) : jR (d + 1) 251 0 [.ref a, .int i1, .int i2, .retAddr 0, .retAddr 0, .retAddr 0, .retAddr 0] [] μ = (if jrecv μ 13 (.ref a) = true then (jC d 246 [.ref a] μ).bind fun p1 => jR (d + 1) 251 4 [.ref a, .int i1, .int i2, .retAddr 0, .retAddr 0, .retAddr 0, .retAddr 0] (p1.1.toList ++ []) p1.2 else none) :=
  (l_aload_n (show gPG 251 0 = some (.aload_n 0) by decide +kernel) rfl jr_ref).trans <|
  l_callV (u := 1) (v := .ref a) (as := []) (show gPG 251 1 = some (jinvI 1 468) by decide +kernel) (by decide) (cc := 246) (na := 1) (kd := 13) (q4 := 0) (z := 10) (rest := []) (by decide +kernel) (by decide +kernel)  rfl (show (1 : Nat) ≤ 1 by decide) rfl cs0 (by decide +kernel) (cav jr_ref ca0)
theorem b251_4 (d : Nat) (μ : jM) (a : Nat) (i1 : Int32) (i2 : Int32) (u3 : Value) (u4 : Value) (u5 : Value) (u6 : Value) : jR d 251 4 [.ref a, .int i1, .int i2, u3, u4, u5, u6] [] μ = (jpI μ 13 48 0 (.ref a) i1).bind fun m1 => jR d 251 11 [.ref a, .int i1, .int i2, .int 0, u4, u5, u6] [] m1 :=
  (l_aload_n (show gPG 251 4 = some (.aload_n 0) by decide +kernel) rfl jr_ref).trans <|
  (l_iload_n (show gPG 251 5 = some (.iload_n 1) by decide +kernel) rfl).trans <|
  (l_pI (show gPG 251 6 = some (.putfield 480) by decide +kernel) (kd := 13) (sl := 48) (tc := 0) (fin := 0) (z := 0) (by decide +kernel) (by decide +kernel) (by decide +kernel)).trans <| bd_cg fun m1 hm1 =>
  (l_iconst (show gPG 251 9 = some (.iconst 0) by decide +kernel) (c := 0) (by decide +kernel)).trans <|
  l_istore_n (show gPG 251 10 = some (.istore_n 3) by decide +kernel) (ls := [.ref a, .int i1, .int i2, u3, u4, u5, u6]) (show (3 : Nat) < 7 by decide) (show _ = ([.ref a, .int i1, .int i2, .int 0, u4, u5, u6] : List Value) from rfl)
theorem b251_11 (d : Nat) (μ : jM) (a : Nat) (u1 : Value) (i2 : Int32) (i3 : Int32) (u4 : Value) (u5 : Value) (u6 : Value) : jR (d + 1) 251 11 [.ref a, u1, .int i2, .int i3, u4, u5, u6] [] μ = (if i3 < i2 then (if jrecv μ 13 (.ref a) = true then (jC d 252 [.ref a, .int 2] μ).bind fun p2 => jR (d + 1) 251 22 [.ref a, u1, .int i2, .int i3, u4, u5, u6] (p2.1.toList ++ [.int 1]) p2.2 else none) else (if jrecv μ 13 (.ref a) = true then (jC d 225 [.ref a] μ).bind fun p1 => jR (d + 1) 251 89 [.ref a, u1, .int i2, .int i3, u4, u5, u6] (p1.1.toList ++ []) p1.2 else none)) :=
  (l_iload_n (show gPG 251 11 = some (.iload_n 3) by decide +kernel) rfl).trans <|
  (l_iload_n (show gPG 251 12 = some (.iload_n 2) by decide +kernel) rfl).trans <|
  (l_cmp (show gPG 251 13 = some (.if_icmp .ge 72) by decide +kernel) (t := 85) (by decide +kernel)).trans <| jm_ge.trans <| ite_cg (
  (l_iconst (show gPG 251 16 = some (.iconst 1) by decide +kernel) (c := 1) (by decide +kernel)).trans <|
  (l_aload_n (show gPG 251 17 = some (.aload_n 0) by decide +kernel) rfl jr_ref).trans <|
  (l_iconst (show gPG 251 18 = some (.iconst 2) by decide +kernel) (c := 2) (by decide +kernel)).trans <|
  l_callV (u := 1) (v := .ref a) (as := [.int 2]) (show gPG 251 19 = some (jinvI 1 484) by decide +kernel) (by decide) (cc := 252) (na := 2) (kd := 13) (q4 := 0) (z := 10) (rest := [.int 1]) (by decide +kernel) (by decide +kernel)  rfl (show (2 : Nat) ≤ 3 by decide) rfl (csi cs0) (by decide +kernel) (cai (cav jr_ref ca0))) (
  (l_aload_n (show gPG 251 85 = some (.aload_n 0) by decide +kernel) rfl jr_ref).trans <|
  l_callV (u := 1) (v := .ref a) (as := []) (show gPG 251 86 = some (jinvI 1 459) by decide +kernel) (by decide) (cc := 225) (na := 1) (kd := 13) (q4 := 0) (z := 10) (rest := []) (by decide +kernel) (by decide +kernel)  rfl (show (1 : Nat) ≤ 1 by decide) rfl cs0 (by decide +kernel) (cav jr_ref ca0))
theorem b251_22 (d : Nat) (μ : jM) (a : Nat) (u1 : Value) (i2 : Int32) (i3 : Int32) (u4 : Value) (u5 : Value) (u6 : Value) (s0 : Int32) (s1 : Int32) : jR (d + 1) 251 22 [.ref a, u1, .int i2, .int i3, u4, u5, u6] [.int s1, .int s0] μ = (jgR μ 13 0 (.ref a)).bind fun w1 => (jaI μ w1 (s0 + s1)).bind fun x2 => (if x2 = 0 then jR (d + 1) 251 79 [.ref a, u1, .int i2, .int i3, .int (s0 + s1), u5, u6] [] μ else (jgR μ 13 0 (.ref a)).bind fun w3 => (jaI μ w3 (s0 + s1)).bind fun x4 => (if jrecv μ 13 (.ref a) = true then (jC d 252 [.ref a, .int x4] μ).bind fun p5 => jR (d + 1) 251 49 [.ref a, u1, .int i2, .int i3, .int (s0 + s1), u5, u6] (p5.1.toList ++ []) p5.2 else none)) :=
  (l_iadd (show gPG 251 22 = some (.iadd) by decide +kernel) ).trans <|
  (l_istore (show gPG 251 23 = some (.istore 4) by decide +kernel) (ls := [.ref a, u1, .int i2, .int i3, u4, u5, u6]) (show (4 : Nat) < 7 by decide) (show _ = ([.ref a, u1, .int i2, .int i3, .int (s0 + s1), u5, u6] : List Value) from rfl)).trans <|
  (l_aload_n (show gPG 251 25 = some (.aload_n 0) by decide +kernel) rfl jr_ref).trans <|
  (l_gR (show gPG 251 26 = some (.getfield 11) by decide +kernel) (kd := 13) (sl := 0) (tc := 1) (fin := 1) (z := 0) (by decide +kernel) (by decide +kernel) (by decide +kernel)).trans <| bd_cg fun w1 hw1 =>
  (l_iload (show gPG 251 29 = some (.iload 4) by decide +kernel) rfl).trans <|
  (l_iald (show gPG 251 31 = some (.iaload) by decide +kernel) ).trans <| bd_cg fun x2 hx2 =>
  (l_cmp0 (show gPG 251 32 = some (.ifCond .ne 6) by decide +kernel) (t := 38) (by decide +kernel)).trans <| jm_ne.trans <| ite_cg (
  l_goto (show gPG 251 35 = some (.goto 44) by decide +kernel) (t := 79) (by decide +kernel)) (
  (l_aload_n (show gPG 251 38 = some (.aload_n 0) by decide +kernel) rfl jr_ref).trans <|
  (l_aload_n (show gPG 251 39 = some (.aload_n 0) by decide +kernel) rfl jr_ref).trans <|
  (l_gR (show gPG 251 40 = some (.getfield 11) by decide +kernel) (kd := 13) (sl := 0) (tc := 1) (fin := 1) (z := 0) (by decide +kernel) (by decide +kernel) (by decide +kernel)).trans <| bd_cg fun w3 hw3 =>
  (l_iload (show gPG 251 43 = some (.iload 4) by decide +kernel) rfl).trans <|
  (l_iald (show gPG 251 45 = some (.iaload) by decide +kernel) ).trans <| bd_cg fun x4 hx4 =>
  l_callV (u := 1) (v := .ref a) (as := [.int x4]) (show gPG 251 46 = some (jinvI 1 484) by decide +kernel) (by decide) (cc := 252) (na := 2) (kd := 13) (q4 := 0) (z := 10) (rest := []) (by decide +kernel) (by decide +kernel)  rfl (show (2 : Nat) ≤ 2 by decide) rfl cs0 (by decide +kernel) (cai (cav jr_ref ca0)))
theorem b251_49 (d : Nat) (μ : jM) (a : Nat) (u1 : Value) (i2 : Int32) (i3 : Int32) (i4 : Int32) (u5 : Value) (u6 : Value) (s0 : Int32) : jR (d + 1) 251 49 [.ref a, u1, .int i2, .int i3, .int i4, u5, u6] [.int s0] μ = (if jrecv μ 13 (.ref a) = true then (jC d 252 [.ref a, .int 3] μ).bind fun p1 => jR (d + 1) 251 56 [.ref a, u1, .int i2, .int i3, .int i4, .int s0, u6] (p1.1.toList ++ []) p1.2 else none) :=
  (l_istore (show gPG 251 49 = some (.istore 5) by decide +kernel) (ls := [.ref a, u1, .int i2, .int i3, .int i4, u5, u6]) (show (5 : Nat) < 7 by decide) (show _ = ([.ref a, u1, .int i2, .int i3, .int i4, .int s0, u6] : List Value) from rfl)).trans <|
  (l_aload_n (show gPG 251 51 = some (.aload_n 0) by decide +kernel) rfl jr_ref).trans <|
  (l_iconst (show gPG 251 52 = some (.iconst 3) by decide +kernel) (c := 3) (by decide +kernel)).trans <|
  l_callV (u := 1) (v := .ref a) (as := [.int 3]) (show gPG 251 53 = some (jinvI 1 484) by decide +kernel) (by decide) (cc := 252) (na := 2) (kd := 13) (q4 := 0) (z := 10) (rest := []) (by decide +kernel) (by decide +kernel)  rfl (show (2 : Nat) ≤ 2 by decide) rfl cs0 (by decide +kernel) (cai (cav jr_ref ca0))
theorem b251_56 (d : Nat) (μ : jM) (a : Nat) (u1 : Value) (i2 : Int32) (i3 : Int32) (i4 : Int32) (i5 : Int32) (u6 : Value) (s0 : Int32) : jR (d + 1) 251 56 [.ref a, u1, .int i2, .int i3, .int i4, .int i5, u6] [.int s0] μ = (if jrecv μ 13 (.ref a) = true then (jC d 252 [.ref a, .int 10] μ).bind fun p1 => jR (d + 1) 251 75 [.ref a, u1, .int i2, .int i3, .int i4, .int i5, .int s0] (p1.1.toList ++ [.int 1, .int ((3 * i5) + s0), .int i4, .ref a]) p1.2 else none) :=
  (l_istore (show gPG 251 56 = some (.istore 6) by decide +kernel) (ls := [.ref a, u1, .int i2, .int i3, .int i4, .int i5, u6]) (show (6 : Nat) < 7 by decide) (show _ = ([.ref a, u1, .int i2, .int i3, .int i4, .int i5, .int s0] : List Value) from rfl)).trans <|
  (l_aload_n (show gPG 251 58 = some (.aload_n 0) by decide +kernel) rfl jr_ref).trans <|
  (l_iload (show gPG 251 59 = some (.iload 4) by decide +kernel) rfl).trans <|
  (l_iconst (show gPG 251 61 = some (.iconst 3) by decide +kernel) (c := 3) (by decide +kernel)).trans <|
  (l_iload (show gPG 251 62 = some (.iload 5) by decide +kernel) rfl).trans <|
  (l_imul (show gPG 251 64 = some (.imul) by decide +kernel) ).trans <|
  (l_iload (show gPG 251 65 = some (.iload 6) by decide +kernel) rfl).trans <|
  (l_iadd (show gPG 251 67 = some (.iadd) by decide +kernel) ).trans <|
  (l_iconst (show gPG 251 68 = some (.iconst 1) by decide +kernel) (c := 1) (by decide +kernel)).trans <|
  (l_aload_n (show gPG 251 69 = some (.aload_n 0) by decide +kernel) rfl jr_ref).trans <|
  (l_bipush (show gPG 251 70 = some (.bipush 10) by decide +kernel) (c := 10) (by decide +kernel)).trans <|
  l_callV (u := 1) (v := .ref a) (as := [.int 10]) (show gPG 251 72 = some (jinvI 1 484) by decide +kernel) (by decide) (cc := 252) (na := 2) (kd := 13) (q4 := 0) (z := 10) (rest := [.int 1, .int ((3 * i5) + s0), .int i4, .ref a]) (by decide +kernel) (by decide +kernel)  rfl (show (2 : Nat) ≤ 6 by decide) rfl (csi (csi (csi (csv jr_ref cs0)))) (by decide +kernel) (cai (cav jr_ref ca0))
theorem b251_75 (d : Nat) (μ : jM) (a : Nat) (u1 : Value) (i2 : Int32) (i3 : Int32) (u4 : Value) (u5 : Value) (u6 : Value) (s0 : Value) (s1 : Int32) (s2 : Int32) (s3 : Int32) (s4 : Int32) (hs0 : jisref s0 = true) : jR (d + 1) 251 75 [.ref a, u1, .int i2, .int i3, u4, u5, u6] [.int s4, .int s3, .int s2, .int s1, s0] μ = (if jrecv μ 13 s0 = true then (jC d 192 [s0, .int s1, .int s2, .int s3, .int s4, .null] μ).bind fun p1 => jR (d + 1) 251 79 [.ref a, u1, .int i2, .int i3, u4, u5, u6] (p1.1.toList ++ []) p1.2 else none) :=
  (l_anull (show gPG 251 75 = some (.aconst_null) by decide +kernel) ).trans <|
  l_callV (u := 1) (v := s0) (as := [.int s1, .int s2, .int s3, .int s4, .null]) (show gPG 251 76 = some (jinvI 1 294) by decide +kernel) (by decide) (cc := 192) (na := 6) (kd := 13) (q4 := 0) (z := 10) (rest := []) (by decide +kernel) (by decide +kernel)  rfl (show (6 : Nat) ≤ 6 by decide) rfl cs0 (by decide +kernel) (cav jr_null (cai (cai (cai (cai (cav hs0 ca0))))))
theorem b251_79 (d : Nat) (μ : jM) (a : Nat) (u1 : Value) (i2 : Int32) (i3 : Int32) (u4 : Value) (u5 : Value) (u6 : Value) : jR d 251 79 [.ref a, u1, .int i2, .int i3, u4, u5, u6] [] μ = jR d 251 11 [.ref a, u1, .int i2, .int (i3 + 1), u4, u5, u6] [] μ :=
  (l_iinc (show gPG 251 79 = some (.iinc 3 1) by decide +kernel) (c := 1) (by decide +kernel) rfl (show _ = ([.ref a, u1, .int i2, .int (i3 + 1), u4, u5, u6] : List Value) from rfl)).trans <|
  l_goto (show gPG 251 82 = some (.goto (-71)) by decide +kernel) (t := 11) (by decide +kernel)
theorem b251_89 (d : Nat) (μ : jM) (a : Nat) (u1 : Value) (u2 : Value) (u3 : Value) (u4 : Value) (u5 : Value) (u6 : Value) (s0 : Int32) : jR d 251 89 [.ref a, u1, u2, u3, u4, u5, u6] [.int s0] μ = (if s0 = 0 then jR d 251 101 [.ref a, u1, u2, u3, u4, u5, u6] [.int (-4)] μ else (jgI μ 13 35 (.ref a)).bind fun x1 => jR d 251 101 [.ref a, u1, u2, u3, u4, u5, u6] [.int x1] μ) :=
  (l_cmp0 (show gPG 251 89 = some (.ifCond .eq 10) by decide +kernel) (t := 99) (by decide +kernel)).trans <| jm_eq.trans <| ite_cg (
  l_bipush (show gPG 251 99 = some (.bipush (-4)) by decide +kernel) (c := (-4)) (by decide +kernel)) (
  (l_aload_n (show gPG 251 92 = some (.aload_n 0) by decide +kernel) rfl jr_ref).trans <|
  (l_gI (show gPG 251 93 = some (.getfield 163) by decide +kernel) (kd := 13) (sl := 35) (tc := 0) (fin := 0) (z := 0) (by decide +kernel) (by decide +kernel) (by decide +kernel)).trans <| bd_cg fun x1 hx1 =>
  l_goto (show gPG 251 96 = some (.goto 5) by decide +kernel) (t := 101) (by decide +kernel))
theorem b251_101 (d : Nat) (μ : jM) (a : Nat) (u1 : Value) (u2 : Value) (u3 : Value) (u4 : Value) (u5 : Value) (u6 : Value) (s0 : Int32) : jR (d + 1) 251 101 [.ref a, u1, u2, u3, u4, u5, u6] [.int s0] μ = (if jrecv μ 13 (.ref a) = true then (jC d 249 [.ref a] μ).bind fun p1 => jR (d + 1) 251 106 [.ref a, u1, u2, .int s0, u4, u5, u6] (p1.1.toList ++ []) p1.2 else none) :=
  (l_istore_n (show gPG 251 101 = some (.istore_n 3) by decide +kernel) (ls := [.ref a, u1, u2, u3, u4, u5, u6]) (show (3 : Nat) < 7 by decide) (show _ = ([.ref a, u1, u2, .int s0, u4, u5, u6] : List Value) from rfl)).trans <|
  (l_aload_n (show gPG 251 102 = some (.aload_n 0) by decide +kernel) rfl jr_ref).trans <|
  l_callV (u := 1) (v := .ref a) (as := []) (show gPG 251 103 = some (jinvI 1 477) by decide +kernel) (by decide) (cc := 249) (na := 1) (kd := 13) (q4 := 0) (z := 10) (rest := []) (by decide +kernel) (by decide +kernel)  rfl (show (1 : Nat) ≤ 1 by decide) rfl cs0 (by decide +kernel) (cav jr_ref ca0)
theorem b251_106 (d : Nat) (μ : jM) (u0 : Value) (u1 : Value) (u2 : Value) (i3 : Int32) (u4 : Value) (u5 : Value) (u6 : Value) : jR d 251 106 [u0, u1, u2, .int i3, u4, u5, u6] [] μ = some (some (.int i3), μ) :=
  (l_iload_n (show gPG 251 106 = some (.iload_n 3) by decide +kernel) rfl).trans <|
  l_iret1 (show gPG 251 107 = some (.ireturn) by decide +kernel) (by decide +kernel)
-- Ref.draw
theorem b252_0 (d : Nat) (μ : jM) (a : Nat) (i1 : Int32) : jR d 252 0 [.ref a, .int i1] [] μ = (jgI μ 13 48 (.ref a)).bind fun x1 => (jpI μ 13 48 0 (.ref a) ((x1 * 1103515245) + 12345)).bind fun m2 => (jgI m2 13 48 (.ref a)).bind fun x3 => if i1 = 0 then none else some (some (.int (((Int32.toUInt32 x3 >>> (Int32.toUInt32 9 &&& Int32.toUInt32 31)).toInt32) - ((Int32.toUInt32 x3 >>> (Int32.toUInt32 9 &&& Int32.toUInt32 31)).toInt32) / i1 * i1)), m2) :=
  (l_aload_n (show gPG 252 0 = some (.aload_n 0) by decide +kernel) rfl jr_ref).trans <|
  (l_aload_n (show gPG 252 1 = some (.aload_n 0) by decide +kernel) rfl jr_ref).trans <|
  (l_gI (show gPG 252 2 = some (.getfield 480) by decide +kernel) (kd := 13) (sl := 48) (tc := 0) (fin := 0) (z := 0) (by decide +kernel) (by decide +kernel) (by decide +kernel)).trans <| bd_cg fun x1 hx1 =>
  (l_ldcw (show gPG 252 5 = some (.ldc_w 483) by decide +kernel) (c := 1103515245) (by decide +kernel)).trans <|
  (l_imul (show gPG 252 8 = some (.imul) by decide +kernel) ).trans <|
  (l_sipush (show gPG 252 9 = some (.sipush 12345) by decide +kernel) (c := 12345) (by decide +kernel)).trans <|
  (l_iadd (show gPG 252 12 = some (.iadd) by decide +kernel) ).trans <|
  (l_pI (show gPG 252 13 = some (.putfield 480) by decide +kernel) (kd := 13) (sl := 48) (tc := 0) (fin := 0) (z := 0) (by decide +kernel) (by decide +kernel) (by decide +kernel)).trans <| bd_cg fun m2 hm2 =>
  (l_aload_n (show gPG 252 16 = some (.aload_n 0) by decide +kernel) rfl jr_ref).trans <|
  (l_gI (show gPG 252 17 = some (.getfield 480) by decide +kernel) (kd := 13) (sl := 48) (tc := 0) (fin := 0) (z := 0) (by decide +kernel) (by decide +kernel) (by decide +kernel)).trans <| bd_cg fun x3 hx3 =>
  (l_bipush (show gPG 252 20 = some (.bipush 9) by decide +kernel) (c := 9) (by decide +kernel)).trans <|
  (l_iushr (show gPG 252 22 = some (.iushr) by decide +kernel) ).trans <|
  (l_iload_n (show gPG 252 23 = some (.iload_n 1) by decide +kernel) rfl).trans <|
  (l_irem (show gPG 252 24 = some (.irem) by decide +kernel)).trans <| ite_cg rfl (
  l_iret1 (show gPG 252 25 = some (.ireturn) by decide +kernel) (by decide +kernel))
-- Ref.chance
theorem b253_0 (d : Nat) (μ : jM) (a : Nat) (i1 : Int32) (i2 : Int32) (i3 : Int32) : jR (d + 1) 253 0 [.ref a, .int i1, .int i2, .int i3, .retAddr 0, .retAddr 0, .retAddr 0] [] μ = (jC d 165 [.int i2, .int 1, .int 8] μ).bind fun p1 => jR (d + 1) 253 7 [.ref a, .int i1, .int i2, .int i3, .retAddr 0, .retAddr 0, .retAddr 0] (p1.1.toList ++ []) p1.2 :=
  (l_iload_n (show gPG 253 0 = some (.iload_n 2) by decide +kernel) rfl).trans <|
  (l_iconst (show gPG 253 1 = some (.iconst 1) by decide +kernel) (c := 1) (by decide +kernel)).trans <|
  (l_bipush (show gPG 253 2 = some (.bipush 8) by decide +kernel) (c := 8) (by decide +kernel)).trans <|
  l_callS (u := 2) (as := [.int i2, .int 1, .int 8]) (show gPG 253 4 = some (jinvI 2 125) by decide +kernel) (by decide) (cc := 165) (na := 3) (q4 := 0) (z := 12) (rest := []) (by decide +kernel) (by decide +kernel)  rfl (show (3 : Nat) ≤ 3 by decide) rfl cs0 (by decide +kernel) (cai (cai (cai ca0))) (fun e => absurd e (by decide))
theorem b253_7 (d : Nat) (μ : jM) (a : Nat) (i1 : Int32) (i2 : Int32) (i3 : Int32) (u4 : Value) (u5 : Value) (u6 : Value) (s0 : Int32) : jR (d + 1) 253 7 [.ref a, .int i1, .int i2, .int i3, u4, u5, u6] [.int s0] μ = (if s0 = 0 then jR (d + 1) 253 19 [.ref a, .int i1, .int i2, .int i3, u4, u5, u6] [] μ else (jC d 165 [.int i3, .int 0, .int 1] μ).bind fun p1 => jR (d + 1) 253 16 [.ref a, .int i1, .int i2, .int i3, u4, u5, u6] (p1.1.toList ++ []) p1.2) :=
  (l_cmp0 (show gPG 253 7 = some (.ifCond .eq 12) by decide +kernel) (t := 19) (by decide +kernel)).trans <| jm_eq.trans <| ite_cg (
  rfl) (
  (l_iload_n (show gPG 253 10 = some (.iload_n 3) by decide +kernel) rfl).trans <|
  (l_iconst (show gPG 253 11 = some (.iconst 0) by decide +kernel) (c := 0) (by decide +kernel)).trans <|
  (l_iconst (show gPG 253 12 = some (.iconst 1) by decide +kernel) (c := 1) (by decide +kernel)).trans <|
  l_callS (u := 2) (as := [.int i3, .int 0, .int 1]) (show gPG 253 13 = some (jinvI 2 125) by decide +kernel) (by decide) (cc := 165) (na := 3) (q4 := 0) (z := 12) (rest := []) (by decide +kernel) (by decide +kernel)  rfl (show (3 : Nat) ≤ 3 by decide) rfl cs0 (by decide +kernel) (cai (cai (cai ca0))) (fun e => absurd e (by decide)))
theorem b253_16 (d : Nat) (μ : jM) (a : Nat) (i1 : Int32) (i2 : Int32) (i3 : Int32) (u4 : Value) (u5 : Value) (u6 : Value) (s0 : Int32) : jR d 253 16 [.ref a, .int i1, .int i2, .int i3, u4, u5, u6] [.int s0] μ = (if s0 = 0 then jR d 253 19 [.ref a, .int i1, .int i2, .int i3, u4, u5, u6] [] μ else jR d 253 28 [.ref a, .int i1, .int i2, .int i3, .int 0, .int 0, u6] [] μ) :=
  (l_cmp0 (show gPG 253 16 = some (.ifCond .ne 6) by decide +kernel) (t := 22) (by decide +kernel)).trans <| jm_ne.trans <| ite_cg (
  rfl) (
  (l_iconst (show gPG 253 22 = some (.iconst 0) by decide +kernel) (c := 0) (by decide +kernel)).trans <|
  (l_istore (show gPG 253 23 = some (.istore 4) by decide +kernel) (ls := [.ref a, .int i1, .int i2, .int i3, u4, u5, u6]) (show (4 : Nat) < 7 by decide) (show _ = ([.ref a, .int i1, .int i2, .int i3, .int 0, u5, u6] : List Value) from rfl)).trans <|
  (l_iconst (show gPG 253 25 = some (.iconst 0) by decide +kernel) (c := 0) (by decide +kernel)).trans <|
  l_istore (show gPG 253 26 = some (.istore 5) by decide +kernel) (ls := [.ref a, .int i1, .int i2, .int i3, .int 0, u5, u6]) (show (5 : Nat) < 7 by decide) (show _ = ([.ref a, .int i1, .int i2, .int i3, .int 0, .int 0, u6] : List Value) from rfl))
theorem b253_19 (d : Nat) (μ : jM) (u0 : Value) (u1 : Value) (u2 : Value) (u3 : Value) (u4 : Value) (u5 : Value) (u6 : Value) : jR d 253 19 [u0, u1, u2, u3, u4, u5, u6] [] μ = some (some (.int (-2)), μ) :=
  (l_bipush (show gPG 253 19 = some (.bipush (-2)) by decide +kernel) (c := (-2)) (by decide +kernel)).trans <|
  l_iret1 (show gPG 253 21 = some (.ireturn) by decide +kernel) (by decide +kernel)
theorem b253_28 (d : Nat) (μ : jM) (a : Nat) (i1 : Int32) (i2 : Int32) (i3 : Int32) (i4 : Int32) (i5 : Int32) (u6 : Value) : jR (d + 1) 253 28 [.ref a, .int i1, .int i2, .int i3, .int i4, .int i5, u6] [] μ = (if i5 < i2 then (if jrecv μ 13 (.ref a) = true then (jC d 251 [.ref a, .int (i1 + i5), .int 3] μ).bind fun p1 => jR (d + 1) 253 43 [.ref a, .int i1, .int i2, .int i3, .int i4, .int i5, u6] (p1.1.toList ++ []) p1.2 else none) else (if i3 = 0 then jR (d + 1) 253 79 [.ref a, .int i1, .int i2, .int i3, .int i4, .int i5, u6] [.int i4] μ else jR (d + 1) 253 79 [.ref a, .int i1, .int i2, .int i3, .int i4, .int i5, u6] [.int i2] μ)) :=
  (l_iload (show gPG 253 28 = some (.iload 5) by decide +kernel) rfl).trans <|
  (l_iload_n (show gPG 253 30 = some (.iload_n 2) by decide +kernel) rfl).trans <|
  (l_cmp (show gPG 253 31 = some (.if_icmp .ge 38) by decide +kernel) (t := 69) (by decide +kernel)).trans <| jm_ge.trans <| ite_cg (
  (l_aload_n (show gPG 253 34 = some (.aload_n 0) by decide +kernel) rfl jr_ref).trans <|
  (l_iload_n (show gPG 253 35 = some (.iload_n 1) by decide +kernel) rfl).trans <|
  (l_iload (show gPG 253 36 = some (.iload 5) by decide +kernel) rfl).trans <|
  (l_iadd (show gPG 253 38 = some (.iadd) by decide +kernel) ).trans <|
  (l_iconst (show gPG 253 39 = some (.iconst 3) by decide +kernel) (c := 3) (by decide +kernel)).trans <|
  l_callV (u := 1) (v := .ref a) (as := [.int (i1 + i5), .int 3]) (show gPG 253 40 = some (jinvI 1 487) by decide +kernel) (by decide) (cc := 251) (na := 3) (kd := 13) (q4 := 0) (z := 10) (rest := []) (by decide +kernel) (by decide +kernel)  rfl (show (3 : Nat) ≤ 3 by decide) rfl cs0 (by decide +kernel) (cai (cai (cav jr_ref ca0)))) (
  (l_iload_n (show gPG 253 69 = some (.iload_n 3) by decide +kernel) rfl).trans <|
  (l_cmp0 (show gPG 253 70 = some (.ifCond .ne 8) by decide +kernel) (t := 78) (by decide +kernel)).trans <| jm_ne.trans <| ite_cg (
  (l_iload (show gPG 253 73 = some (.iload 4) by decide +kernel) rfl).trans <|
  l_goto (show gPG 253 75 = some (.goto 4) by decide +kernel) (t := 79) (by decide +kernel)) (
  l_iload_n (show gPG 253 78 = some (.iload_n 2) by decide +kernel) rfl))
theorem b253_43 (d : Nat) (μ : jM) (a : Nat) (i1 : Int32) (i2 : Int32) (i3 : Int32) (i4 : Int32) (i5 : Int32) (u6 : Value) (s0 : Int32) : jR d 253 43 [.ref a, .int i1, .int i2, .int i3, .int i4, .int i5, u6] [.int s0] μ = (if s0 = (-4) then some (some (.int (-4)), μ) else (if s0 = 0 then jR d 253 63 [.ref a, .int i1, .int i2, .int i3, .int (i4 + 1), .int i5, .int s0] [] μ else jR d 253 63 [.ref a, .int i1, .int i2, .int i3, .int i4, .int i5, .int s0] [] μ)) :=
  (l_istore (show gPG 253 43 = some (.istore 6) by decide +kernel) (ls := [.ref a, .int i1, .int i2, .int i3, .int i4, .int i5, u6]) (show (6 : Nat) < 7 by decide) (show _ = ([.ref a, .int i1, .int i2, .int i3, .int i4, .int i5, .int s0] : List Value) from rfl)).trans <|
  (l_iload (show gPG 253 45 = some (.iload 6) by decide +kernel) rfl).trans <|
  (l_bipush (show gPG 253 47 = some (.bipush (-4)) by decide +kernel) (c := (-4)) (by decide +kernel)).trans <|
  (l_cmp (show gPG 253 49 = some (.if_icmp .ne 6) by decide +kernel) (t := 55) (by decide +kernel)).trans <| jm_ne.trans <| ite_cg (
  (l_bipush (show gPG 253 52 = some (.bipush (-4)) by decide +kernel) (c := (-4)) (by decide +kernel)).trans <|
  l_iret1 (show gPG 253 54 = some (.ireturn) by decide +kernel) (by decide +kernel)) (
  (l_iload (show gPG 253 55 = some (.iload 6) by decide +kernel) rfl).trans <|
  (l_cmp0 (show gPG 253 57 = some (.ifCond .ne 6) by decide +kernel) (t := 63) (by decide +kernel)).trans <| jm_ne.trans <| ite_cg (
  l_iinc (show gPG 253 60 = some (.iinc 4 1) by decide +kernel) (c := 1) (by decide +kernel) rfl (show _ = ([.ref a, .int i1, .int i2, .int i3, .int (i4 + 1), .int i5, .int s0] : List Value) from rfl)) (
  rfl))
theorem b253_63 (d : Nat) (μ : jM) (a : Nat) (i1 : Int32) (i2 : Int32) (i3 : Int32) (i4 : Int32) (i5 : Int32) (u6 : Value) : jR d 253 63 [.ref a, .int i1, .int i2, .int i3, .int i4, .int i5, u6] [] μ = jR d 253 28 [.ref a, .int i1, .int i2, .int i3, .int i4, .int (i5 + 1), u6] [] μ :=
  (l_iinc (show gPG 253 63 = some (.iinc 5 1) by decide +kernel) (c := 1) (by decide +kernel) rfl (show _ = ([.ref a, .int i1, .int i2, .int i3, .int i4, .int (i5 + 1), u6] : List Value) from rfl)).trans <|
  l_goto (show gPG 253 66 = some (.goto (-38)) by decide +kernel) (t := 28) (by decide +kernel)
theorem b253_79 (d : Nat) (μ : jM) (u0 : Value) (u1 : Value) (i2 : Int32) (u3 : Value) (i4 : Int32) (u5 : Value) (u6 : Value) (s0 : Int32) : jR (d + 1) 253 79 [u0, u1, .int i2, u3, .int i4, u5, u6] [.int s0] μ = (jC d 254 [.int i4, .int i2] μ).bind fun p1 => jR (d + 1) 253 85 [u0, u1, .int i2, u3, .int i4, u5, u6] (p1.1.toList ++ [.int s0]) p1.2 :=
  (l_iload (show gPG 253 79 = some (.iload 4) by decide +kernel) rfl).trans <|
  (l_iload_n (show gPG 253 81 = some (.iload_n 2) by decide +kernel) rfl).trans <|
  l_callS (u := 2) (as := [.int i4, .int i2]) (show gPG 253 82 = some (jinvI 2 490) by decide +kernel) (by decide) (cc := 254) (na := 2) (q4 := 0) (z := 12) (rest := [.int s0]) (by decide +kernel) (by decide +kernel)  rfl (show (2 : Nat) ≤ 3 by decide) rfl (csi cs0) (by decide +kernel) (cai (cai ca0)) (fun e => absurd e (by decide))
theorem b253_85 (d : Nat) (μ : jM) (u0 : Value) (u1 : Value) (u2 : Value) (u3 : Value) (u4 : Value) (u5 : Value) (u6 : Value) (s0 : Int32) (s1 : Int32) : jR d 253 85 [u0, u1, u2, u3, u4, u5, u6] [.int s1, .int s0] μ = if s1 = 0 then none else some (some (.int (s0 / s1)), μ) :=
  (l_idiv (show gPG 253 85 = some (.idiv) by decide +kernel)).trans <| ite_cg rfl (
  l_iret1 (show gPG 253 86 = some (.ireturn) by decide +kernel) (by decide +kernel))
-- Ref.common
theorem b254_0 (d : Nat) (μ : jM) (i0 : Int32) (i1 : Int32) : jR (d + 1) 254 0 [.int i0, .int i1] [] μ = (if i1 = 0 then jR (d + 1) 254 15 [.int i0, .int i1] [.int i0] μ else if i1 = 0 then none else (jC d 254 [.int i1, .int (i0 - i0 / i1 * i1)] μ).bind fun p1 => jR (d + 1) 254 15 [.int i0, .int i1] (p1.1.toList ++ []) p1.2) :=
  (l_iload_n (show gPG 254 0 = some (.iload_n 1) by decide +kernel) rfl).trans <|
  (l_cmp0 (show gPG 254 1 = some (.ifCond .ne 7) by decide +kernel) (t := 8) (by decide +kernel)).trans <| jm_ne.trans <| ite_cg (
  (l_iload_n (show gPG 254 4 = some (.iload_n 0) by decide +kernel) rfl).trans <|
  l_goto (show gPG 254 5 = some (.goto 10) by decide +kernel) (t := 15) (by decide +kernel)) (
  (l_iload_n (show gPG 254 8 = some (.iload_n 1) by decide +kernel) rfl).trans <|
  (l_iload_n (show gPG 254 9 = some (.iload_n 0) by decide +kernel) rfl).trans <|
  (l_iload_n (show gPG 254 10 = some (.iload_n 1) by decide +kernel) rfl).trans <|
  (l_irem (show gPG 254 11 = some (.irem) by decide +kernel)).trans <| ite_cg rfl (
  l_callS (u := 2) (as := [.int i1, .int (i0 - i0 / i1 * i1)]) (show gPG 254 12 = some (jinvI 2 490) by decide +kernel) (by decide) (cc := 254) (na := 2) (q4 := 0) (z := 12) (rest := []) (by decide +kernel) (by decide +kernel)  rfl (show (2 : Nat) ≤ 2 by decide) rfl cs0 (by decide +kernel) (cai (cai ca0)) (fun e => absurd e (by decide))))
theorem b254_15 (d : Nat) (μ : jM) (u0 : Value) (u1 : Value) (s0 : Int32) : jR d 254 15 [u0, u1] [.int s0] μ = some (some (.int s0), μ) :=
  l_iret1 (show gPG 254 15 = some (.ireturn) by decide +kernel) (by decide +kernel)
-- Ref.tells
theorem b255_0 (d : Nat) (μ : jM) (a : Nat) (i1 : Int32) (i2 : Int32) (i3 : Int32) (i4 : Int32) : jR (d + 1) 255 0 [.ref a, .int i1, .int i2, .int i3, .int i4, .retAddr 0, .retAddr 0, .retAddr 0] [] μ = (jC d 256 [.int i1] μ).bind fun p1 => jR (d + 1) 255 4 [.ref a, .int i1, .int i2, .int i3, .int i4, .retAddr 0, .retAddr 0, .retAddr 0] (p1.1.toList ++ []) p1.2 :=
  (l_iload_n (show gPG 255 0 = some (.iload_n 1) by decide +kernel) rfl).trans <|
  l_callS (u := 2) (as := [.int i1]) (show gPG 255 1 = some (jinvI 2 493) by decide +kernel) (by decide) (cc := 256) (na := 1) (q4 := 0) (z := 12) (rest := []) (by decide +kernel) (by decide +kernel)  rfl (show (1 : Nat) ≤ 1 by decide) rfl cs0 (by decide +kernel) (cai ca0) (fun e => absurd e (by decide))
theorem b255_4 (d : Nat) (μ : jM) (a : Nat) (i1 : Int32) (i2 : Int32) (i3 : Int32) (i4 : Int32) (u5 : Value) (u6 : Value) (u7 : Value) (s0 : Int32) : jR (d + 1) 255 4 [.ref a, .int i1, .int i2, .int i3, .int i4, u5, u6, u7] [.int s0] μ = (if s0 = 0 then jR (d + 1) 255 36 [.ref a, .int i1, .int i2, .int i3, .int i4, u5, u6, u7] [] μ else (jC d 171 [.int i3] μ).bind fun p1 => jR (d + 1) 255 11 [.ref a, .int i1, .int i2, .int i3, .int i4, u5, u6, u7] (p1.1.toList ++ []) p1.2) :=
  (l_cmp0 (show gPG 255 4 = some (.ifCond .eq 32) by decide +kernel) (t := 36) (by decide +kernel)).trans <| jm_eq.trans <| ite_cg (
  rfl) (
  (l_iload_n (show gPG 255 7 = some (.iload_n 3) by decide +kernel) rfl).trans <|
  l_callS (u := 2) (as := [.int i3]) (show gPG 255 8 = some (jinvI 2 133) by decide +kernel) (by decide) (cc := 171) (na := 1) (q4 := 0) (z := 12) (rest := []) (by decide +kernel) (by decide +kernel)  rfl (show (1 : Nat) ≤ 1 by decide) rfl cs0 (by decide +kernel) (cai ca0) (fun e => absurd e (by decide)))
theorem b255_11 (d : Nat) (μ : jM) (a : Nat) (i1 : Int32) (i2 : Int32) (i3 : Int32) (i4 : Int32) (u5 : Value) (u6 : Value) (u7 : Value) (s0 : Int32) : jR (d + 1) 255 11 [.ref a, .int i1, .int i2, .int i3, .int i4, u5, u6, u7] [.int s0] μ = (if s0 = 0 then jR (d + 1) 255 36 [.ref a, .int i1, .int i2, .int i3, .int i4, u5, u6, u7] [] μ else (jC d 165 [.int i4, .int 0, .int 1] μ).bind fun p1 => jR (d + 1) 255 21 [.ref a, .int i1, .int i2, .int i3, .int i4, u5, u6, u7] (p1.1.toList ++ []) p1.2) :=
  (l_cmp0 (show gPG 255 11 = some (.ifCond .eq 25) by decide +kernel) (t := 36) (by decide +kernel)).trans <| jm_eq.trans <| ite_cg (
  rfl) (
  (l_iload (show gPG 255 14 = some (.iload 4) by decide +kernel) rfl).trans <|
  (l_iconst (show gPG 255 16 = some (.iconst 0) by decide +kernel) (c := 0) (by decide +kernel)).trans <|
  (l_iconst (show gPG 255 17 = some (.iconst 1) by decide +kernel) (c := 1) (by decide +kernel)).trans <|
  l_callS (u := 2) (as := [.int i4, .int 0, .int 1]) (show gPG 255 18 = some (jinvI 2 125) by decide +kernel) (by decide) (cc := 165) (na := 3) (q4 := 0) (z := 12) (rest := []) (by decide +kernel) (by decide +kernel)  rfl (show (3 : Nat) ≤ 3 by decide) rfl cs0 (by decide +kernel) (cai (cai (cai ca0))) (fun e => absurd e (by decide)))
theorem b255_21 (d : Nat) (μ : jM) (a : Nat) (i1 : Int32) (i2 : Int32) (i3 : Int32) (i4 : Int32) (u5 : Value) (u6 : Value) (u7 : Value) (s0 : Int32) : jR (d + 1) 255 21 [.ref a, .int i1, .int i2, .int i3, .int i4, u5, u6, u7] [.int s0] μ = (if s0 = 0 then jR (d + 1) 255 36 [.ref a, .int i1, .int i2, .int i3, .int i4, u5, u6, u7] [] μ else (if i4 = 0 then (jC d 170 [.int i2] μ).bind fun p1 => jR (d + 1) 255 33 [.ref a, .int i1, .int i2, .int i3, .int i4, u5, u6, u7] (p1.1.toList ++ []) p1.2 else jR (d + 1) 255 39 [.ref a, .int i1, .int i2, .int i3, .int i4, u5, u6, u7] [] μ)) :=
  (l_cmp0 (show gPG 255 21 = some (.ifCond .eq 15) by decide +kernel) (t := 36) (by decide +kernel)).trans <| jm_eq.trans <| ite_cg (
  rfl) (
  (l_iload (show gPG 255 24 = some (.iload 4) by decide +kernel) rfl).trans <|
  (l_cmp0 (show gPG 255 26 = some (.ifCond .ne 13) by decide +kernel) (t := 39) (by decide +kernel)).trans <| jm_ne.trans <| ite_cg (
  (l_iload_n (show gPG 255 29 = some (.iload_n 2) by decide +kernel) rfl).trans <|
  l_callS (u := 2) (as := [.int i2]) (show gPG 255 30 = some (jinvI 2 129) by decide +kernel) (by decide) (cc := 170) (na := 1) (q4 := 0) (z := 12) (rest := []) (by decide +kernel) (by decide +kernel)  rfl (show (1 : Nat) ≤ 1 by decide) rfl cs0 (by decide +kernel) (cai ca0) (fun e => absurd e (by decide))) (
  rfl))
theorem b255_33 (d : Nat) (μ : jM) (a : Nat) (i1 : Int32) (i2 : Int32) (i3 : Int32) (i4 : Int32) (u5 : Value) (u6 : Value) (u7 : Value) (s0 : Int32) : jR d 255 33 [.ref a, .int i1, .int i2, .int i3, .int i4, u5, u6, u7] [.int s0] μ = (if s0 = 0 then jR d 255 36 [.ref a, .int i1, .int i2, .int i3, .int i4, u5, u6, u7] [] μ else jR d 255 39 [.ref a, .int i1, .int i2, .int i3, .int i4, u5, u6, u7] [] μ) :=
  (l_cmp0 (show gPG 255 33 = some (.ifCond .ne 6) by decide +kernel) (t := 39) (by decide +kernel)).trans <| jm_ne.trans <| ite_cg (
  rfl) (
  rfl)
theorem b255_36 (d : Nat) (μ : jM) (u0 : Value) (u1 : Value) (u2 : Value) (u3 : Value) (u4 : Value) (u5 : Value) (u6 : Value) (u7 : Value) : jR d 255 36 [u0, u1, u2, u3, u4, u5, u6, u7] [] μ = some (some (.int (-2)), μ) :=
  (l_bipush (show gPG 255 36 = some (.bipush (-2)) by decide +kernel) (c := (-2)) (by decide +kernel)).trans <|
  l_iret1 (show gPG 255 38 = some (.ireturn) by decide +kernel) (by decide +kernel)
theorem b255_39 (d : Nat) (μ : jM) (a : Nat) (i1 : Int32) (i2 : Int32) (i3 : Int32) (i4 : Int32) (u5 : Value) (u6 : Value) (u7 : Value) : jR (d + 1) 255 39 [.ref a, .int i1, .int i2, .int i3, .int i4, u5, u6, u7] [] μ = (jgR μ 13 52 (.ref a)).bind fun w1 => (jaI μ w1 i1).bind fun x2 => (if x2 < 0 then some (some (.int (-11)), μ) else (jgR μ 13 53 (.ref a)).bind fun w3 => (jaI μ w3 i1).bind fun x4 => (if 8 < x4 then some (some (.int (-2)), μ) else (if i4 = 0 then (if jrecv μ 13 (.ref a) = true then (jC d 257 [.ref a, .int i1, .int i2, .int i3] μ).bind fun p8 => jR (d + 1) 255 77 [.ref a, .int i1, .int i2, .int i3, .int i4, u5, u6, u7] (p8.1.toList ++ []) p8.2 else none) else (jgR μ 13 6 (.ref a)).bind fun w5 => (jaI μ w5 i3).bind fun x6 => (if jrecv μ 13 (.ref a) = true then (jC d 246 [.ref a] μ).bind fun p7 => jR (d + 1) 255 93 [.ref a, .int i1, .int i2, .int i3, .int i4, .int x6, .int 0, u7] (p7.1.toList ++ []) p7.2 else none)))) :=
  (l_aload_n (show gPG 255 39 = some (.aload_n 0) by decide +kernel) rfl jr_ref).trans <|
  (l_gR (show gPG 255 40 = some (.getfield 113) by decide +kernel) (kd := 13) (sl := 52) (tc := 1) (fin := 1) (z := 0) (by decide +kernel) (by decide +kernel) (by decide +kernel)).trans <| bd_cg fun w1 hw1 =>
  (l_iload_n (show gPG 255 43 = some (.iload_n 1) by decide +kernel) rfl).trans <|
  (l_iald (show gPG 255 44 = some (.iaload) by decide +kernel) ).trans <| bd_cg fun x2 hx2 =>
  (l_cmp0 (show gPG 255 45 = some (.ifCond .ge 6) by decide +kernel) (t := 51) (by decide +kernel)).trans <| jm_ge.trans <| ite_cg (
  (l_bipush (show gPG 255 48 = some (.bipush (-11)) by decide +kernel) (c := (-11)) (by decide +kernel)).trans <|
  l_iret1 (show gPG 255 50 = some (.ireturn) by decide +kernel) (by decide +kernel)) (
  (l_aload_n (show gPG 255 51 = some (.aload_n 0) by decide +kernel) rfl jr_ref).trans <|
  (l_gR (show gPG 255 52 = some (.getfield 116) by decide +kernel) (kd := 13) (sl := 53) (tc := 1) (fin := 1) (z := 0) (by decide +kernel) (by decide +kernel) (by decide +kernel)).trans <| bd_cg fun w3 hw3 =>
  (l_iload_n (show gPG 255 55 = some (.iload_n 1) by decide +kernel) rfl).trans <|
  (l_iald (show gPG 255 56 = some (.iaload) by decide +kernel) ).trans <| bd_cg fun x4 hx4 =>
  (l_bipush (show gPG 255 57 = some (.bipush 8) by decide +kernel) (c := 8) (by decide +kernel)).trans <|
  (l_cmp (show gPG 255 59 = some (.if_icmp .le 6) by decide +kernel) (t := 65) (by decide +kernel)).trans <| jm_le.trans <| ite_cg (
  (l_bipush (show gPG 255 62 = some (.bipush (-2)) by decide +kernel) (c := (-2)) (by decide +kernel)).trans <|
  l_iret1 (show gPG 255 64 = some (.ireturn) by decide +kernel) (by decide +kernel)) (
  (l_iload (show gPG 255 65 = some (.iload 4) by decide +kernel) rfl).trans <|
  (l_cmp0 (show gPG 255 67 = some (.ifCond .ne 11) by decide +kernel) (t := 78) (by decide +kernel)).trans <| jm_ne.trans <| ite_cg (
  (l_aload_n (show gPG 255 70 = some (.aload_n 0) by decide +kernel) rfl jr_ref).trans <|
  (l_iload_n (show gPG 255 71 = some (.iload_n 1) by decide +kernel) rfl).trans <|
  (l_iload_n (show gPG 255 72 = some (.iload_n 2) by decide +kernel) rfl).trans <|
  (l_iload_n (show gPG 255 73 = some (.iload_n 3) by decide +kernel) rfl).trans <|
  l_callV (u := 1) (v := .ref a) (as := [.int i1, .int i2, .int i3]) (show gPG 255 74 = some (jinvI 1 496) by decide +kernel) (by decide) (cc := 257) (na := 4) (kd := 13) (q4 := 0) (z := 10) (rest := []) (by decide +kernel) (by decide +kernel)  rfl (show (4 : Nat) ≤ 4 by decide) rfl cs0 (by decide +kernel) (cai (cai (cai (cav jr_ref ca0))))) (
  (l_aload_n (show gPG 255 78 = some (.aload_n 0) by decide +kernel) rfl jr_ref).trans <|
  (l_gR (show gPG 255 79 = some (.getfield 34) by decide +kernel) (kd := 13) (sl := 6) (tc := 1) (fin := 1) (z := 0) (by decide +kernel) (by decide +kernel) (by decide +kernel)).trans <| bd_cg fun w5 hw5 =>
  (l_iload_n (show gPG 255 82 = some (.iload_n 3) by decide +kernel) rfl).trans <|
  (l_iald (show gPG 255 83 = some (.iaload) by decide +kernel) ).trans <| bd_cg fun x6 hx6 =>
  (l_istore (show gPG 255 84 = some (.istore 5) by decide +kernel) (ls := [.ref a, .int i1, .int i2, .int i3, .int i4, u5, u6, u7]) (show (5 : Nat) < 8 by decide) (show _ = ([.ref a, .int i1, .int i2, .int i3, .int i4, .int x6, u6, u7] : List Value) from rfl)).trans <|
  (l_iconst (show gPG 255 86 = some (.iconst 0) by decide +kernel) (c := 0) (by decide +kernel)).trans <|
  (l_istore (show gPG 255 87 = some (.istore 6) by decide +kernel) (ls := [.ref a, .int i1, .int i2, .int i3, .int i4, .int x6, u6, u7]) (show (6 : Nat) < 8 by decide) (show _ = ([.ref a, .int i1, .int i2, .int i3, .int i4, .int x6, .int 0, u7] : List Value) from rfl)).trans <|
  (l_aload_n (show gPG 255 89 = some (.aload_n 0) by decide +kernel) rfl jr_ref).trans <|
  l_callV (u := 1) (v := .ref a) (as := []) (show gPG 255 90 = some (jinvI 1 468) by decide +kernel) (by decide) (cc := 246) (na := 1) (kd := 13) (q4 := 0) (z := 10) (rest := []) (by decide +kernel) (by decide +kernel)  rfl (show (1 : Nat) ≤ 1 by decide) rfl cs0 (by decide +kernel) (cav jr_ref ca0))))
theorem b255_77 (d : Nat) (μ : jM) (u0 : Value) (u1 : Value) (u2 : Value) (u3 : Value) (u4 : Value) (u5 : Value) (u6 : Value) (u7 : Value) (s0 : Int32) : jR d 255 77 [u0, u1, u2, u3, u4, u5, u6, u7] [.int s0] μ = some (some (.int s0), μ) :=
  l_iret1 (show gPG 255 77 = some (.ireturn) by decide +kernel) (by decide +kernel)
theorem b255_93 (d : Nat) (μ : jM) (a : Nat) (i1 : Int32) (u2 : Value) (i3 : Int32) (u4 : Value) (i5 : Int32) (i6 : Int32) (u7 : Value) : jR d 255 93 [.ref a, .int i1, u2, .int i3, u4, .int i5, .int i6, u7] [] μ = jR d 255 96 [.ref a, .int i1, u2, .int i3, u4, .int i5, .int i6, .int 0] [] μ :=
  (l_iconst (show gPG 255 93 = some (.iconst 0) by decide +kernel) (c := 0) (by decide +kernel)).trans <|
  l_istore (show gPG 255 94 = some (.istore 7) by decide +kernel) (ls := [.ref a, .int i1, u2, .int i3, u4, .int i5, .int i6, u7]) (show (7 : Nat) < 8 by decide) (show _ = ([.ref a, .int i1, u2, .int i3, u4, .int i5, .int i6, .int 0] : List Value) from rfl)
theorem b255_96 (d : Nat) (μ : jM) (a : Nat) (i1 : Int32) (u2 : Value) (i3 : Int32) (u4 : Value) (i5 : Int32) (i6 : Int32) (i7 : Int32) : jR (d + 1) 255 96 [.ref a, .int i1, u2, .int i3, u4, .int i5, .int i6, .int i7] [] μ = (if i7 < 6 then (if i6 = (-4) then jR (d + 1) 255 158 [.ref a, .int i1, u2, .int i3, u4, .int i5, .int i6, .int i7] [] μ else (jgR μ 13 6 (.ref a)).bind fun w1 => (jsI μ w1 i3 i7).bind fun m2 => (if jrecv m2 13 (.ref a) = true then (jC d 225 [.ref a] m2).bind fun p3 => jR (d + 1) 255 122 [.ref a, .int i1, u2, .int i3, u4, .int i5, .int i6, .int i7] (p3.1.toList ++ []) p3.2 else none)) else jR (d + 1) 255 158 [.ref a, .int i1, u2, .int i3, u4, .int i5, .int i6, .int i7] [] μ) :=
  (l_iload (show gPG 255 96 = some (.iload 7) by decide +kernel) rfl).trans <|
  (l_bipush (show gPG 255 98 = some (.bipush 6) by decide +kernel) (c := 6) (by decide +kernel)).trans <|
  (l_cmp (show gPG 255 100 = some (.if_icmp .ge 58) by decide +kernel) (t := 158) (by decide +kernel)).trans <| jm_ge.trans <| ite_cg (
  (l_iload (show gPG 255 103 = some (.iload 6) by decide +kernel) rfl).trans <|
  (l_bipush (show gPG 255 105 = some (.bipush (-4)) by decide +kernel) (c := (-4)) (by decide +kernel)).trans <|
  (l_cmp (show gPG 255 107 = some (.if_icmp .eq 51) by decide +kernel) (t := 158) (by decide +kernel)).trans <| jm_eq.trans <| ite_cg (
  rfl) (
  (l_aload_n (show gPG 255 110 = some (.aload_n 0) by decide +kernel) rfl jr_ref).trans <|
  (l_gR (show gPG 255 111 = some (.getfield 34) by decide +kernel) (kd := 13) (sl := 6) (tc := 1) (fin := 1) (z := 0) (by decide +kernel) (by decide +kernel) (by decide +kernel)).trans <| bd_cg fun w1 hw1 =>
  (l_iload_n (show gPG 255 114 = some (.iload_n 3) by decide +kernel) rfl).trans <|
  (l_iload (show gPG 255 115 = some (.iload 7) by decide +kernel) rfl).trans <|
  (l_iast (show gPG 255 117 = some (.iastore) by decide +kernel) ).trans <| bd_cg fun m2 hm2 =>
  (l_aload_n (show gPG 255 118 = some (.aload_n 0) by decide +kernel) rfl jr_ref).trans <|
  l_callV (u := 1) (v := .ref a) (as := []) (show gPG 255 119 = some (jinvI 1 459) by decide +kernel) (by decide) (cc := 225) (na := 1) (kd := 13) (q4 := 0) (z := 10) (rest := []) (by decide +kernel) (by decide +kernel)  rfl (show (1 : Nat) ≤ 1 by decide) rfl cs0 (by decide +kernel) (cav jr_ref ca0))) (
  rfl)
theorem b255_122 (d : Nat) (μ : jM) (a : Nat) (i1 : Int32) (u2 : Value) (i3 : Int32) (u4 : Value) (i5 : Int32) (i6 : Int32) (i7 : Int32) (s0 : Int32) : jR (d + 1) 255 122 [.ref a, .int i1, u2, .int i3, u4, .int i5, .int i6, .int i7] [.int s0] μ = (if s0 = 0 then jR (d + 1) 255 152 [.ref a, .int i1, u2, .int i3, u4, .int i5, .int (-4), .int i7] [] μ else (if jrecv μ 13 (.ref a) = true then (jC d 257 [.ref a, .int i1, .int 3, .int i3] μ).bind fun p1 => jR (d + 1) 255 139 [.ref a, .int i1, u2, .int i3, u4, .int i5, .int i6, .int i7] (p1.1.toList ++ []) p1.2 else none)) :=
  (l_cmp0 (show gPG 255 122 = some (.ifCond .ne 10) by decide +kernel) (t := 132) (by decide +kernel)).trans <| jm_ne.trans <| ite_cg (
  (l_bipush (show gPG 255 125 = some (.bipush (-4)) by decide +kernel) (c := (-4)) (by decide +kernel)).trans <|
  (l_istore (show gPG 255 127 = some (.istore 6) by decide +kernel) (ls := [.ref a, .int i1, u2, .int i3, u4, .int i5, .int i6, .int i7]) (show (6 : Nat) < 8 by decide) (show _ = ([.ref a, .int i1, u2, .int i3, u4, .int i5, .int (-4), .int i7] : List Value) from rfl)).trans <|
  l_goto (show gPG 255 129 = some (.goto 23) by decide +kernel) (t := 152) (by decide +kernel)) (
  (l_aload_n (show gPG 255 132 = some (.aload_n 0) by decide +kernel) rfl jr_ref).trans <|
  (l_iload_n (show gPG 255 133 = some (.iload_n 1) by decide +kernel) rfl).trans <|
  (l_iconst (show gPG 255 134 = some (.iconst 3) by decide +kernel) (c := 3) (by decide +kernel)).trans <|
  (l_iload_n (show gPG 255 135 = some (.iload_n 3) by decide +kernel) rfl).trans <|
  l_callV (u := 1) (v := .ref a) (as := [.int i1, .int 3, .int i3]) (show gPG 255 136 = some (jinvI 1 496) by decide +kernel) (by decide) (cc := 257) (na := 4) (kd := 13) (q4 := 0) (z := 10) (rest := []) (by decide +kernel) (by decide +kernel)  rfl (show (4 : Nat) ≤ 4 by decide) rfl cs0 (by decide +kernel) (cai (cai (cai (cav jr_ref ca0)))))
theorem b255_139 (d : Nat) (μ : jM) (a : Nat) (i1 : Int32) (u2 : Value) (i3 : Int32) (u4 : Value) (i5 : Int32) (i6 : Int32) (i7 : Int32) (s0 : Int32) : jR d 255 139 [.ref a, .int i1, u2, .int i3, u4, .int i5, .int i6, .int i7] [.int s0] μ = (if s0 = (-1) then jR d 255 152 [.ref a, .int i1, u2, .int i3, u4, .int i5, .int (i6 ||| (1 <<< (i7 &&& 31))), .int i7] [] μ else jR d 255 152 [.ref a, .int i1, u2, .int i3, u4, .int i5, .int i6, .int i7] [] μ) :=
  (l_iconst (show gPG 255 139 = some (.iconst (-1)) by decide +kernel) (c := (-1)) (by decide +kernel)).trans <|
  (l_cmp (show gPG 255 140 = some (.if_icmp .ne 12) by decide +kernel) (t := 152) (by decide +kernel)).trans <| jm_ne.trans <| ite_cg (
  (l_iload (show gPG 255 143 = some (.iload 6) by decide +kernel) rfl).trans <|
  (l_iconst (show gPG 255 145 = some (.iconst 1) by decide +kernel) (c := 1) (by decide +kernel)).trans <|
  (l_iload (show gPG 255 146 = some (.iload 7) by decide +kernel) rfl).trans <|
  (l_ishl (show gPG 255 148 = some (.ishl) by decide +kernel) ).trans <|
  (l_ior (show gPG 255 149 = some (.ior) by decide +kernel) ).trans <|
  l_istore (show gPG 255 150 = some (.istore 6) by decide +kernel) (ls := [.ref a, .int i1, u2, .int i3, u4, .int i5, .int i6, .int i7]) (show (6 : Nat) < 8 by decide) (show _ = ([.ref a, .int i1, u2, .int i3, u4, .int i5, .int (i6 ||| (1 <<< (i7 &&& 31))), .int i7] : List Value) from rfl)) (
  rfl)
theorem b255_152 (d : Nat) (μ : jM) (a : Nat) (i1 : Int32) (u2 : Value) (i3 : Int32) (u4 : Value) (i5 : Int32) (i6 : Int32) (i7 : Int32) : jR d 255 152 [.ref a, .int i1, u2, .int i3, u4, .int i5, .int i6, .int i7] [] μ = jR d 255 96 [.ref a, .int i1, u2, .int i3, u4, .int i5, .int i6, .int (i7 + 1)] [] μ :=
  (l_iinc (show gPG 255 152 = some (.iinc 7 1) by decide +kernel) (c := 1) (by decide +kernel) rfl (show _ = ([.ref a, .int i1, u2, .int i3, u4, .int i5, .int i6, .int (i7 + 1)] : List Value) from rfl)).trans <|
  l_goto (show gPG 255 155 = some (.goto (-59)) by decide +kernel) (t := 96) (by decide +kernel)
theorem b255_158 (d : Nat) (μ : jM) (a : Nat) (u1 : Value) (u2 : Value) (i3 : Int32) (u4 : Value) (i5 : Int32) (i6 : Int32) (u7 : Value) : jR (d + 1) 255 158 [.ref a, u1, u2, .int i3, u4, .int i5, .int i6, u7] [] μ = (if jrecv μ 13 (.ref a) = true then (jC d 249 [.ref a] μ).bind fun p1 => jR (d + 1) 255 162 [.ref a, u1, u2, .int i3, u4, .int i5, .int i6, u7] (p1.1.toList ++ []) p1.2 else none) :=
  (l_aload_n (show gPG 255 158 = some (.aload_n 0) by decide +kernel) rfl jr_ref).trans <|
  l_callV (u := 1) (v := .ref a) (as := []) (show gPG 255 159 = some (jinvI 1 477) by decide +kernel) (by decide) (cc := 249) (na := 1) (kd := 13) (q4 := 0) (z := 10) (rest := []) (by decide +kernel) (by decide +kernel)  rfl (show (1 : Nat) ≤ 1 by decide) rfl cs0 (by decide +kernel) (cav jr_ref ca0)
theorem b255_162 (d : Nat) (μ : jM) (a : Nat) (u1 : Value) (u2 : Value) (i3 : Int32) (u4 : Value) (i5 : Int32) (i6 : Int32) (u7 : Value) : jR d 255 162 [.ref a, u1, u2, .int i3, u4, .int i5, .int i6, u7] [] μ = (jgR μ 13 6 (.ref a)).bind fun w1 => (jsI μ w1 i3 i5).bind fun m2 => some (some (.int i6), m2) :=
  (l_aload_n (show gPG 255 162 = some (.aload_n 0) by decide +kernel) rfl jr_ref).trans <|
  (l_gR (show gPG 255 163 = some (.getfield 34) by decide +kernel) (kd := 13) (sl := 6) (tc := 1) (fin := 1) (z := 0) (by decide +kernel) (by decide +kernel) (by decide +kernel)).trans <| bd_cg fun w1 hw1 =>
  (l_iload_n (show gPG 255 166 = some (.iload_n 3) by decide +kernel) rfl).trans <|
  (l_iload (show gPG 255 167 = some (.iload 5) by decide +kernel) rfl).trans <|
  (l_iast (show gPG 255 169 = some (.iastore) by decide +kernel) ).trans <| bd_cg fun m2 hm2 =>
  (l_iload (show gPG 255 170 = some (.iload 6) by decide +kernel) rfl).trans <|
  l_iret1 (show gPG 255 172 = some (.ireturn) by decide +kernel) (by decide +kernel)
-- Ref.isSheet
theorem b256_0 (d : Nat) (μ : jM) (i0 : Int32) : jR (d + 1) 256 0 [.int i0] [] μ = (jC d 165 [.int i0, .int 0, .int 3] μ).bind fun p1 => jR (d + 1) 256 6 [.int i0] (p1.1.toList ++ []) p1.2 :=
  (l_iload_n (show gPG 256 0 = some (.iload_n 0) by decide +kernel) rfl).trans <|
  (l_iconst (show gPG 256 1 = some (.iconst 0) by decide +kernel) (c := 0) (by decide +kernel)).trans <|
  (l_iconst (show gPG 256 2 = some (.iconst 3) by decide +kernel) (c := 3) (by decide +kernel)).trans <|
  l_callS (u := 2) (as := [.int i0, .int 0, .int 3]) (show gPG 256 3 = some (jinvI 2 125) by decide +kernel) (by decide) (cc := 165) (na := 3) (q4 := 0) (z := 12) (rest := []) (by decide +kernel) (by decide +kernel)  rfl (show (3 : Nat) ≤ 3 by decide) rfl cs0 (by decide +kernel) (cai (cai (cai ca0))) (fun e => absurd e (by decide))
theorem b256_6 (d : Nat) (μ : jM) (u0 : Value) (s0 : Int32) : jR d 256 6 [u0] [.int s0] μ = (if jrf 4 s0 = true then some (some (.int s0), μ) else none) :=
  l_iret (show gPG 256 6 = some (.ireturn) by decide +kernel) (rc := 4) (by decide +kernel)
-- Ref.otherwise
theorem b257_0 (d : Nat) (μ : jM) (a : Nat) (i1 : Int32) (i2 : Int32) (i3 : Int32) : jR (d + 1) 257 0 [.ref a, .int i1, .int i2, .int i3, .retAddr 0, .retAddr 0] [] μ = (if jrecv μ 13 (.ref a) = true then (jC d 209 [.ref a, .int i2] μ).bind fun p1 => jR (d + 1) 257 5 [.ref a, .int i1, .int i2, .int i3, .retAddr 0, .retAddr 0] (p1.1.toList ++ []) p1.2 else none) :=
  (l_aload_n (show gPG 257 0 = some (.aload_n 0) by decide +kernel) rfl jr_ref).trans <|
  (l_iload_n (show gPG 257 1 = some (.iload_n 2) by decide +kernel) rfl).trans <|
  l_callV (u := 1) (v := .ref a) (as := [.int i2]) (show gPG 257 2 = some (jinvI 1 369) by decide +kernel) (by decide) (cc := 209) (na := 2) (kd := 13) (q4 := 0) (z := 10) (rest := []) (by decide +kernel) (by decide +kernel)  rfl (show (2 : Nat) ≤ 2 by decide) rfl cs0 (by decide +kernel) (cai (cav jr_ref ca0))
theorem b257_5 (d : Nat) (μ : jM) (a : Nat) (i1 : Int32) (i2 : Int32) (i3 : Int32) (u4 : Value) (u5 : Value) : jR d 257 5 [.ref a, .int i1, .int i2, .int i3, u4, u5] [] μ = jR d 257 8 [.ref a, .int i1, .int i2, .int i3, .int 0, u5] [] μ :=
  (l_iconst (show gPG 257 5 = some (.iconst 0) by decide +kernel) (c := 0) (by decide +kernel)).trans <|
  l_istore (show gPG 257 6 = some (.istore 4) by decide +kernel) (ls := [.ref a, .int i1, .int i2, .int i3, u4, u5]) (show (4 : Nat) < 6 by decide) (show _ = ([.ref a, .int i1, .int i2, .int i3, .int 0, u5] : List Value) from rfl)
theorem b257_8 (d : Nat) (μ : jM) (a : Nat) (i1 : Int32) (i2 : Int32) (i3 : Int32) (i4 : Int32) (u5 : Value) : jR (d + 1) 257 8 [.ref a, .int i1, .int i2, .int i3, .int i4, u5] [] μ = (jgR μ 13 53 (.ref a)).bind fun w1 => (jaI μ w1 i1).bind fun x2 => (if i4 < x2 then (jgR μ 13 0 (.ref a)).bind fun w9 => (jaI μ w9 i2).bind fun x10 => (if i4 < x10 then (jpI μ 13 33 0 (.ref a) 0).bind fun m11 => (if jrecv m11 13 (.ref a) = true then (jC d 210 [.ref a, .int ((3 * i4) + i3)] m11).bind fun p12 => jR (d + 1) 257 48 [.ref a, .int i1, .int i2, .int i3, .int i4, u5] (p12.1.toList ++ []) p12.2 else none) else some (some (.int i4), μ)) else (jgR μ 13 0 (.ref a)).bind fun w3 => (jaI μ w3 i2).bind fun x4 => (jgR μ 13 53 (.ref a)).bind fun w5 => (jaI μ w5 i1).bind fun x6 => (if x6 < x4 then (jgR μ 13 53 (.ref a)).bind fun w7 => (jaI μ w7 i1).bind fun x8 => jR (d + 1) 257 105 [.ref a, .int i1, .int i2, .int i3, .int i4, u5] [.int x8] μ else jR (d + 1) 257 105 [.ref a, .int i1, .int i2, .int i3, .int i4, u5] [.int (-1)] μ)) :=
  (l_iload (show gPG 257 8 = some (.iload 4) by decide +kernel) rfl).trans <|
  (l_aload_n (show gPG 257 10 = some (.aload_n 0) by decide +kernel) rfl jr_ref).trans <|
  (l_gR (show gPG 257 11 = some (.getfield 116) by decide +kernel) (kd := 13) (sl := 53) (tc := 1) (fin := 1) (z := 0) (by decide +kernel) (by decide +kernel) (by decide +kernel)).trans <| bd_cg fun w1 hw1 =>
  (l_iload_n (show gPG 257 14 = some (.iload_n 1) by decide +kernel) rfl).trans <|
  (l_iald (show gPG 257 15 = some (.iaload) by decide +kernel) ).trans <| bd_cg fun x2 hx2 =>
  (l_cmp (show gPG 257 16 = some (.if_icmp .ge 64) by decide +kernel) (t := 80) (by decide +kernel)).trans <| jm_ge.trans <| ite_cg (
  (l_iload (show gPG 257 19 = some (.iload 4) by decide +kernel) rfl).trans <|
  (l_aload_n (show gPG 257 21 = some (.aload_n 0) by decide +kernel) rfl jr_ref).trans <|
  (l_gR (show gPG 257 22 = some (.getfield 11) by decide +kernel) (kd := 13) (sl := 0) (tc := 1) (fin := 1) (z := 0) (by decide +kernel) (by decide +kernel) (by decide +kernel)).trans <| bd_cg fun w9 hw9 =>
  (l_iload_n (show gPG 257 25 = some (.iload_n 2) by decide +kernel) rfl).trans <|
  (l_iald (show gPG 257 26 = some (.iaload) by decide +kernel) ).trans <| bd_cg fun x10 hx10 =>
  (l_cmp (show gPG 257 27 = some (.if_icmp .lt 6) by decide +kernel) (t := 33) (by decide +kernel)).trans <| jm_lt.trans <| ite_cg (
  (l_aload_n (show gPG 257 33 = some (.aload_n 0) by decide +kernel) rfl jr_ref).trans <|
  (l_iconst (show gPG 257 34 = some (.iconst 0) by decide +kernel) (c := 0) (by decide +kernel)).trans <|
  (l_pI (show gPG 257 35 = some (.putfield 333) by decide +kernel) (kd := 13) (sl := 33) (tc := 0) (fin := 0) (z := 0) (by decide +kernel) (by decide +kernel) (by decide +kernel)).trans <| bd_cg fun m11 hm11 =>
  (l_aload_n (show gPG 257 38 = some (.aload_n 0) by decide +kernel) rfl jr_ref).trans <|
  (l_iconst (show gPG 257 39 = some (.iconst 3) by decide +kernel) (c := 3) (by decide +kernel)).trans <|
  (l_iload (show gPG 257 40 = some (.iload 4) by decide +kernel) rfl).trans <|
  (l_imul (show gPG 257 42 = some (.imul) by decide +kernel) ).trans <|
  (l_iload_n (show gPG 257 43 = some (.iload_n 3) by decide +kernel) rfl).trans <|
  (l_iadd (show gPG 257 44 = some (.iadd) by decide +kernel) ).trans <|
  l_callV (u := 1) (v := .ref a) (as := [.int ((3 * i4) + i3)]) (show gPG 257 45 = some (jinvI 1 363) by decide +kernel) (by decide) (cc := 210) (na := 2) (kd := 13) (q4 := 0) (z := 10) (rest := []) (by decide +kernel) (by decide +kernel)  rfl (show (2 : Nat) ≤ 2 by decide) rfl cs0 (by decide +kernel) (cai (cav jr_ref ca0))) (
  (l_iload (show gPG 257 30 = some (.iload 4) by decide +kernel) rfl).trans <|
  l_iret1 (show gPG 257 32 = some (.ireturn) by decide +kernel) (by decide +kernel))) (
  (l_aload_n (show gPG 257 80 = some (.aload_n 0) by decide +kernel) rfl jr_ref).trans <|
  (l_gR (show gPG 257 81 = some (.getfield 11) by decide +kernel) (kd := 13) (sl := 0) (tc := 1) (fin := 1) (z := 0) (by decide +kernel) (by decide +kernel) (by decide +kernel)).trans <| bd_cg fun w3 hw3 =>
  (l_iload_n (show gPG 257 84 = some (.iload_n 2) by decide +kernel) rfl).trans <|
  (l_iald (show gPG 257 85 = some (.iaload) by decide +kernel) ).trans <| bd_cg fun x4 hx4 =>
  (l_aload_n (show gPG 257 86 = some (.aload_n 0) by decide +kernel) rfl jr_ref).trans <|
  (l_gR (show gPG 257 87 = some (.getfield 116) by decide +kernel) (kd := 13) (sl := 53) (tc := 1) (fin := 1) (z := 0) (by decide +kernel) (by decide +kernel) (by decide +kernel)).trans <| bd_cg fun w5 hw5 =>
  (l_iload_n (show gPG 257 90 = some (.iload_n 1) by decide +kernel) rfl).trans <|
  (l_iald (show gPG 257 91 = some (.iaload) by decide +kernel) ).trans <| bd_cg fun x6 hx6 =>
  (l_cmp (show gPG 257 92 = some (.if_icmp .le 12) by decide +kernel) (t := 104) (by decide +kernel)).trans <| jm_le.trans <| ite_cg (
  (l_aload_n (show gPG 257 95 = some (.aload_n 0) by decide +kernel) rfl jr_ref).trans <|
  (l_gR (show gPG 257 96 = some (.getfield 116) by decide +kernel) (kd := 13) (sl := 53) (tc := 1) (fin := 1) (z := 0) (by decide +kernel) (by decide +kernel) (by decide +kernel)).trans <| bd_cg fun w7 hw7 =>
  (l_iload_n (show gPG 257 99 = some (.iload_n 1) by decide +kernel) rfl).trans <|
  (l_iald (show gPG 257 100 = some (.iaload) by decide +kernel) ).trans <| bd_cg fun x8 hx8 =>
  l_goto (show gPG 257 101 = some (.goto 4) by decide +kernel) (t := 105) (by decide +kernel)) (
  l_iconst (show gPG 257 104 = some (.iconst (-1)) by decide +kernel) (c := (-1)) (by decide +kernel)))
theorem b257_48 (d : Nat) (μ : jM) (a : Nat) (i1 : Int32) (i2 : Int32) (i3 : Int32) (i4 : Int32) (u5 : Value) (s0 : Int32) : jR d 257 48 [.ref a, .int i1, .int i2, .int i3, .int i4, u5] [.int s0] μ = (jgI μ 13 33 (.ref a)).bind fun x1 => (if x1 = 0 then (jgR μ 13 54 (.ref a)).bind fun w2 => (jaR μ w2 i1).bind fun w3 => (jaI μ w3 i4).bind fun x4 => (if s0 = x4 then jR d 257 8 [.ref a, .int i1, .int i2, .int i3, .int (i4 + 1), .int s0] [] μ else jR d 257 71 [.ref a, .int i1, .int i2, .int i3, .int i4, .int s0] [] μ) else jR d 257 71 [.ref a, .int i1, .int i2, .int i3, .int i4, .int s0] [] μ) :=
  (l_istore (show gPG 257 48 = some (.istore 5) by decide +kernel) (ls := [.ref a, .int i1, .int i2, .int i3, .int i4, u5]) (show (5 : Nat) < 6 by decide) (show _ = ([.ref a, .int i1, .int i2, .int i3, .int i4, .int s0] : List Value) from rfl)).trans <|
  (l_aload_n (show gPG 257 50 = some (.aload_n 0) by decide +kernel) rfl jr_ref).trans <|
  (l_gI (show gPG 257 51 = some (.getfield 333) by decide +kernel) (kd := 13) (sl := 33) (tc := 0) (fin := 0) (z := 0) (by decide +kernel) (by decide +kernel) (by decide +kernel)).trans <| bd_cg fun x1 hx1 =>
  (l_cmp0 (show gPG 257 54 = some (.ifCond .ne 17) by decide +kernel) (t := 71) (by decide +kernel)).trans <| jm_ne.trans <| ite_cg (
  (l_iload (show gPG 257 57 = some (.iload 5) by decide +kernel) rfl).trans <|
  (l_aload_n (show gPG 257 59 = some (.aload_n 0) by decide +kernel) rfl jr_ref).trans <|
  (l_gR (show gPG 257 60 = some (.getfield 119) by decide +kernel) (kd := 13) (sl := 54) (tc := 1) (fin := 1) (z := 0) (by decide +kernel) (by decide +kernel) (by decide +kernel)).trans <| bd_cg fun w2 hw2 =>
  (l_iload_n (show gPG 257 63 = some (.iload_n 1) by decide +kernel) rfl).trans <|
  (l_aald (show gPG 257 64 = some (.aaload) by decide +kernel) ).trans <| bd_cg fun w3 hw3 =>
  (l_iload (show gPG 257 65 = some (.iload 4) by decide +kernel) rfl).trans <|
  (l_iald (show gPG 257 67 = some (.iaload) by decide +kernel) ).trans <| bd_cg fun x4 hx4 =>
  (l_cmp (show gPG 257 68 = some (.if_icmp .eq 6) by decide +kernel) (t := 74) (by decide +kernel)).trans <| jm_eq.trans <| ite_cg (
  (l_iinc (show gPG 257 74 = some (.iinc 4 1) by decide +kernel) (c := 1) (by decide +kernel) rfl (show _ = ([.ref a, .int i1, .int i2, .int i3, .int (i4 + 1), .int s0] : List Value) from rfl)).trans <|
  l_goto (show gPG 257 77 = some (.goto (-69)) by decide +kernel) (t := 8) (by decide +kernel)) (
  rfl)) (
  rfl)
theorem b257_71 (d : Nat) (μ : jM) (u0 : Value) (u1 : Value) (u2 : Value) (u3 : Value) (i4 : Int32) (u5 : Value) : jR d 257 71 [u0, u1, u2, u3, .int i4, u5] [] μ = some (some (.int i4), μ) :=
  (l_iload (show gPG 257 71 = some (.iload 4) by decide +kernel) rfl).trans <|
  l_iret1 (show gPG 257 73 = some (.ireturn) by decide +kernel) (by decide +kernel)
theorem b257_105 (d : Nat) (μ : jM) (u0 : Value) (u1 : Value) (u2 : Value) (u3 : Value) (u4 : Value) (u5 : Value) (s0 : Int32) : jR d 257 105 [u0, u1, u2, u3, u4, u5] [.int s0] μ = some (some (.int s0), μ) :=
  l_iret1 (show gPG 257 105 = some (.ireturn) by decide +kernel) (by decide +kernel)
-- Ref.film
theorem b258_0 (d : Nat) (μ : jM) (a : Nat) (i1 : Int32) (i2 : Int32) (i3 : Int32) : jR (d + 1) 258 0 [.ref a, .int i1, .int i2, .int i3, .retAddr 0, .retAddr 0] [] μ = (jC d 256 [.int i1] μ).bind fun p1 => jR (d + 1) 258 4 [.ref a, .int i1, .int i2, .int i3, .retAddr 0, .retAddr 0] (p1.1.toList ++ []) p1.2 :=
  (l_iload_n (show gPG 258 0 = some (.iload_n 1) by decide +kernel) rfl).trans <|
  l_callS (u := 2) (as := [.int i1]) (show gPG 258 1 = some (jinvI 2 493) by decide +kernel) (by decide) (cc := 256) (na := 1) (q4 := 0) (z := 12) (rest := []) (by decide +kernel) (by decide +kernel)  rfl (show (1 : Nat) ≤ 1 by decide) rfl cs0 (by decide +kernel) (cai ca0) (fun e => absurd e (by decide))
theorem b258_4 (d : Nat) (μ : jM) (a : Nat) (i1 : Int32) (i2 : Int32) (i3 : Int32) (u4 : Value) (u5 : Value) (s0 : Int32) : jR (d + 1) 258 4 [.ref a, .int i1, .int i2, .int i3, u4, u5] [.int s0] μ = (if s0 = 0 then jR (d + 1) 258 21 [.ref a, .int i1, .int i2, .int i3, u4, u5] [] μ else (jC d 170 [.int i2] μ).bind fun p1 => jR (d + 1) 258 11 [.ref a, .int i1, .int i2, .int i3, u4, u5] (p1.1.toList ++ []) p1.2) :=
  (l_cmp0 (show gPG 258 4 = some (.ifCond .eq 17) by decide +kernel) (t := 21) (by decide +kernel)).trans <| jm_eq.trans <| ite_cg (
  rfl) (
  (l_iload_n (show gPG 258 7 = some (.iload_n 2) by decide +kernel) rfl).trans <|
  l_callS (u := 2) (as := [.int i2]) (show gPG 258 8 = some (jinvI 2 129) by decide +kernel) (by decide) (cc := 170) (na := 1) (q4 := 0) (z := 12) (rest := []) (by decide +kernel) (by decide +kernel)  rfl (show (1 : Nat) ≤ 1 by decide) rfl cs0 (by decide +kernel) (cai ca0) (fun e => absurd e (by decide)))
theorem b258_11 (d : Nat) (μ : jM) (a : Nat) (i1 : Int32) (i2 : Int32) (i3 : Int32) (u4 : Value) (u5 : Value) (s0 : Int32) : jR (d + 1) 258 11 [.ref a, .int i1, .int i2, .int i3, u4, u5] [.int s0] μ = (if s0 = 0 then jR (d + 1) 258 21 [.ref a, .int i1, .int i2, .int i3, u4, u5] [] μ else (jC d 171 [.int i3] μ).bind fun p1 => jR (d + 1) 258 18 [.ref a, .int i1, .int i2, .int i3, u4, u5] (p1.1.toList ++ []) p1.2) :=
  (l_cmp0 (show gPG 258 11 = some (.ifCond .eq 10) by decide +kernel) (t := 21) (by decide +kernel)).trans <| jm_eq.trans <| ite_cg (
  rfl) (
  (l_iload_n (show gPG 258 14 = some (.iload_n 3) by decide +kernel) rfl).trans <|
  l_callS (u := 2) (as := [.int i3]) (show gPG 258 15 = some (jinvI 2 133) by decide +kernel) (by decide) (cc := 171) (na := 1) (q4 := 0) (z := 12) (rest := []) (by decide +kernel) (by decide +kernel)  rfl (show (1 : Nat) ≤ 1 by decide) rfl cs0 (by decide +kernel) (cai ca0) (fun e => absurd e (by decide)))
theorem b258_18 (d : Nat) (μ : jM) (a : Nat) (i1 : Int32) (i2 : Int32) (i3 : Int32) (u4 : Value) (u5 : Value) (s0 : Int32) : jR (d + 1) 258 18 [.ref a, .int i1, .int i2, .int i3, u4, u5] [.int s0] μ = (if s0 = 0 then jR (d + 1) 258 21 [.ref a, .int i1, .int i2, .int i3, u4, u5] [] μ else (if jrecv μ 13 (.ref a) = true then (jC d 209 [.ref a, .int i2] μ).bind fun p1 => jR (d + 1) 258 29 [.ref a, .int i1, .int i2, .int i3, u4, u5] (p1.1.toList ++ []) p1.2 else none)) :=
  (l_cmp0 (show gPG 258 18 = some (.ifCond .ne 6) by decide +kernel) (t := 24) (by decide +kernel)).trans <| jm_ne.trans <| ite_cg (
  rfl) (
  (l_aload_n (show gPG 258 24 = some (.aload_n 0) by decide +kernel) rfl jr_ref).trans <|
  (l_iload_n (show gPG 258 25 = some (.iload_n 2) by decide +kernel) rfl).trans <|
  l_callV (u := 1) (v := .ref a) (as := [.int i2]) (show gPG 258 26 = some (jinvI 1 369) by decide +kernel) (by decide) (cc := 209) (na := 2) (kd := 13) (q4 := 0) (z := 10) (rest := []) (by decide +kernel) (by decide +kernel)  rfl (show (2 : Nat) ≤ 2 by decide) rfl cs0 (by decide +kernel) (cai (cav jr_ref ca0)))
theorem b258_21 (d : Nat) (μ : jM) (u0 : Value) (u1 : Value) (u2 : Value) (u3 : Value) (u4 : Value) (u5 : Value) : jR d 258 21 [u0, u1, u2, u3, u4, u5] [] μ = some (some (.int (-2)), μ) :=
  (l_bipush (show gPG 258 21 = some (.bipush (-2)) by decide +kernel) (c := (-2)) (by decide +kernel)).trans <|
  l_iret1 (show gPG 258 23 = some (.ireturn) by decide +kernel) (by decide +kernel)
theorem b258_29 (d : Nat) (μ : jM) (a : Nat) (i1 : Int32) (i2 : Int32) (i3 : Int32) (u4 : Value) (u5 : Value) : jR d 258 29 [.ref a, .int i1, .int i2, .int i3, u4, u5] [] μ = (jgR μ 13 52 (.ref a)).bind fun w1 => (jsI μ w1 i1 1).bind fun m2 => (jgR m2 13 53 (.ref a)).bind fun w3 => (jgR m2 13 0 (.ref a)).bind fun w4 => (jaI m2 w4 i2).bind fun x5 => (jsI m2 w3 i1 x5).bind fun m6 => jR d 258 51 [.ref a, .int i1, .int i2, .int i3, .int 0, u5] [] m6 :=
  (l_aload_n (show gPG 258 29 = some (.aload_n 0) by decide +kernel) rfl jr_ref).trans <|
  (l_gR (show gPG 258 30 = some (.getfield 113) by decide +kernel) (kd := 13) (sl := 52) (tc := 1) (fin := 1) (z := 0) (by decide +kernel) (by decide +kernel) (by decide +kernel)).trans <| bd_cg fun w1 hw1 =>
  (l_iload_n (show gPG 258 33 = some (.iload_n 1) by decide +kernel) rfl).trans <|
  (l_iconst (show gPG 258 34 = some (.iconst 1) by decide +kernel) (c := 1) (by decide +kernel)).trans <|
  (l_iast (show gPG 258 35 = some (.iastore) by decide +kernel) ).trans <| bd_cg fun m2 hm2 =>
  (l_aload_n (show gPG 258 36 = some (.aload_n 0) by decide +kernel) rfl jr_ref).trans <|
  (l_gR (show gPG 258 37 = some (.getfield 116) by decide +kernel) (kd := 13) (sl := 53) (tc := 1) (fin := 1) (z := 0) (by decide +kernel) (by decide +kernel) (by decide +kernel)).trans <| bd_cg fun w3 hw3 =>
  (l_iload_n (show gPG 258 40 = some (.iload_n 1) by decide +kernel) rfl).trans <|
  (l_aload_n (show gPG 258 41 = some (.aload_n 0) by decide +kernel) rfl jr_ref).trans <|
  (l_gR (show gPG 258 42 = some (.getfield 11) by decide +kernel) (kd := 13) (sl := 0) (tc := 1) (fin := 1) (z := 0) (by decide +kernel) (by decide +kernel) (by decide +kernel)).trans <| bd_cg fun w4 hw4 =>
  (l_iload_n (show gPG 258 45 = some (.iload_n 2) by decide +kernel) rfl).trans <|
  (l_iald (show gPG 258 46 = some (.iaload) by decide +kernel) ).trans <| bd_cg fun x5 hx5 =>
  (l_iast (show gPG 258 47 = some (.iastore) by decide +kernel) ).trans <| bd_cg fun m6 hm6 =>
  (l_iconst (show gPG 258 48 = some (.iconst 0) by decide +kernel) (c := 0) (by decide +kernel)).trans <|
  l_istore (show gPG 258 49 = some (.istore 4) by decide +kernel) (ls := [.ref a, .int i1, .int i2, .int i3, u4, u5]) (show (4 : Nat) < 6 by decide) (show _ = ([.ref a, .int i1, .int i2, .int i3, .int 0, u5] : List Value) from rfl)
theorem b258_51 (d : Nat) (μ : jM) (a : Nat) (i1 : Int32) (i2 : Int32) (i3 : Int32) (i4 : Int32) (u5 : Value) : jR (d + 1) 258 51 [.ref a, .int i1, .int i2, .int i3, .int i4, u5] [] μ = (jgR μ 13 0 (.ref a)).bind fun w1 => (jaI μ w1 i2).bind fun x2 => (if i4 < x2 then (jpI μ 13 33 0 (.ref a) 0).bind fun m5 => (if jrecv m5 13 (.ref a) = true then (jC d 210 [.ref a, .int ((3 * i4) + i3)] m5).bind fun p6 => jR (d + 1) 258 77 [.ref a, .int i1, .int i2, .int i3, .int i4, u5] (p6.1.toList ++ []) p6.2 else none) else (jgR μ 13 0 (.ref a)).bind fun w3 => (jaI μ w3 i2).bind fun x4 => some (some (.int x4), μ)) :=
  (l_iload (show gPG 258 51 = some (.iload 4) by decide +kernel) rfl).trans <|
  (l_aload_n (show gPG 258 53 = some (.aload_n 0) by decide +kernel) rfl jr_ref).trans <|
  (l_gR (show gPG 258 54 = some (.getfield 11) by decide +kernel) (kd := 13) (sl := 0) (tc := 1) (fin := 1) (z := 0) (by decide +kernel) (by decide +kernel) (by decide +kernel)).trans <| bd_cg fun w1 hw1 =>
  (l_iload_n (show gPG 258 57 = some (.iload_n 2) by decide +kernel) rfl).trans <|
  (l_iald (show gPG 258 58 = some (.iaload) by decide +kernel) ).trans <| bd_cg fun x2 hx2 =>
  (l_cmp (show gPG 258 59 = some (.if_icmp .ge 48) by decide +kernel) (t := 107) (by decide +kernel)).trans <| jm_ge.trans <| ite_cg (
  (l_aload_n (show gPG 258 62 = some (.aload_n 0) by decide +kernel) rfl jr_ref).trans <|
  (l_iconst (show gPG 258 63 = some (.iconst 0) by decide +kernel) (c := 0) (by decide +kernel)).trans <|
  (l_pI (show gPG 258 64 = some (.putfield 333) by decide +kernel) (kd := 13) (sl := 33) (tc := 0) (fin := 0) (z := 0) (by decide +kernel) (by decide +kernel) (by decide +kernel)).trans <| bd_cg fun m5 hm5 =>
  (l_aload_n (show gPG 258 67 = some (.aload_n 0) by decide +kernel) rfl jr_ref).trans <|
  (l_iconst (show gPG 258 68 = some (.iconst 3) by decide +kernel) (c := 3) (by decide +kernel)).trans <|
  (l_iload (show gPG 258 69 = some (.iload 4) by decide +kernel) rfl).trans <|
  (l_imul (show gPG 258 71 = some (.imul) by decide +kernel) ).trans <|
  (l_iload_n (show gPG 258 72 = some (.iload_n 3) by decide +kernel) rfl).trans <|
  (l_iadd (show gPG 258 73 = some (.iadd) by decide +kernel) ).trans <|
  l_callV (u := 1) (v := .ref a) (as := [.int ((3 * i4) + i3)]) (show gPG 258 74 = some (jinvI 1 363) by decide +kernel) (by decide) (cc := 210) (na := 2) (kd := 13) (q4 := 0) (z := 10) (rest := []) (by decide +kernel) (by decide +kernel)  rfl (show (2 : Nat) ≤ 2 by decide) rfl cs0 (by decide +kernel) (cai (cav jr_ref ca0))) (
  (l_aload_n (show gPG 258 107 = some (.aload_n 0) by decide +kernel) rfl jr_ref).trans <|
  (l_gR (show gPG 258 108 = some (.getfield 11) by decide +kernel) (kd := 13) (sl := 0) (tc := 1) (fin := 1) (z := 0) (by decide +kernel) (by decide +kernel) (by decide +kernel)).trans <| bd_cg fun w3 hw3 =>
  (l_iload_n (show gPG 258 111 = some (.iload_n 2) by decide +kernel) rfl).trans <|
  (l_iald (show gPG 258 112 = some (.iaload) by decide +kernel) ).trans <| bd_cg fun x4 hx4 =>
  l_iret1 (show gPG 258 113 = some (.ireturn) by decide +kernel) (by decide +kernel))
theorem b258_77 (d : Nat) (μ : jM) (a : Nat) (i1 : Int32) (i2 : Int32) (i3 : Int32) (i4 : Int32) (u5 : Value) (s0 : Int32) : jR d 258 77 [.ref a, .int i1, .int i2, .int i3, .int i4, u5] [.int s0] μ = (jgR μ 13 54 (.ref a)).bind fun w1 => (jaR μ w1 i1).bind fun w2 => (jgI μ 13 33 (.ref a)).bind fun x3 => (if x3 = 0 then jR d 258 100 [.ref a, .int i1, .int i2, .int i3, .int i4, .int s0] [.int s0, .int i4, w2] μ else jR d 258 100 [.ref a, .int i1, .int i2, .int i3, .int i4, .int s0] [.int 0, .int i4, w2] μ) :=
  (l_istore (show gPG 258 77 = some (.istore 5) by decide +kernel) (ls := [.ref a, .int i1, .int i2, .int i3, .int i4, u5]) (show (5 : Nat) < 6 by decide) (show _ = ([.ref a, .int i1, .int i2, .int i3, .int i4, .int s0] : List Value) from rfl)).trans <|
  (l_aload_n (show gPG 258 79 = some (.aload_n 0) by decide +kernel) rfl jr_ref).trans <|
  (l_gR (show gPG 258 80 = some (.getfield 119) by decide +kernel) (kd := 13) (sl := 54) (tc := 1) (fin := 1) (z := 0) (by decide +kernel) (by decide +kernel) (by decide +kernel)).trans <| bd_cg fun w1 hw1 =>
  (l_iload_n (show gPG 258 83 = some (.iload_n 1) by decide +kernel) rfl).trans <|
  (l_aald (show gPG 258 84 = some (.aaload) by decide +kernel) ).trans <| bd_cg fun w2 hw2 =>
  (l_iload (show gPG 258 85 = some (.iload 4) by decide +kernel) rfl).trans <|
  (l_aload_n (show gPG 258 87 = some (.aload_n 0) by decide +kernel) rfl jr_ref).trans <|
  (l_gI (show gPG 258 88 = some (.getfield 333) by decide +kernel) (kd := 13) (sl := 33) (tc := 0) (fin := 0) (z := 0) (by decide +kernel) (by decide +kernel) (by decide +kernel)).trans <| bd_cg fun x3 hx3 =>
  (l_cmp0 (show gPG 258 91 = some (.ifCond .eq 7) by decide +kernel) (t := 98) (by decide +kernel)).trans <| jm_eq.trans <| ite_cg (
  l_iload (show gPG 258 98 = some (.iload 5) by decide +kernel) rfl) (
  (l_iconst (show gPG 258 94 = some (.iconst 0) by decide +kernel) (c := 0) (by decide +kernel)).trans <|
  l_goto (show gPG 258 95 = some (.goto 5) by decide +kernel) (t := 100) (by decide +kernel))
theorem b258_100 (d : Nat) (μ : jM) (a : Nat) (i1 : Int32) (i2 : Int32) (i3 : Int32) (i4 : Int32) (u5 : Value) (s0 : Value) (s1 : Int32) (s2 : Int32) (hs0 : jisref s0 = true) : jR d 258 100 [.ref a, .int i1, .int i2, .int i3, .int i4, u5] [.int s2, .int s1, s0] μ = (jsI μ s0 s1 s2).bind fun m1 => jR d 258 51 [.ref a, .int i1, .int i2, .int i3, .int (i4 + 1), u5] [] m1 :=
  (l_iast (show gPG 258 100 = some (.iastore) by decide +kernel) ).trans <| bd_cg fun m1 hm1 =>
  (l_iinc (show gPG 258 101 = some (.iinc 4 1) by decide +kernel) (c := 1) (by decide +kernel) rfl (show _ = ([.ref a, .int i1, .int i2, .int i3, .int (i4 + 1), u5] : List Value) from rfl)).trans <|
  l_goto (show gPG 258 104 = some (.goto (-53)) by decide +kernel) (t := 51) (by decide +kernel)
-- Ref.image
theorem b259_0 (d : Nat) (μ : jM) (a : Nat) : jR d 259 0 [.ref a, .retAddr 0] [] μ = (jpI μ 13 49 2 (.ref a) 1).bind fun m1 => jR d 259 7 [.ref a, .int 0] [] m1 :=
  (l_aload_n (show gPG 259 0 = some (.aload_n 0) by decide +kernel) rfl jr_ref).trans <|
  (l_iconst (show gPG 259 1 = some (.iconst 1) by decide +kernel) (c := 1) (by decide +kernel)).trans <|
  (l_pI (show gPG 259 2 = some (.putfield 499) by decide +kernel) (kd := 13) (sl := 49) (tc := 2) (fin := 0) (z := 0) (by decide +kernel) (by decide +kernel) (by decide +kernel)).trans <| bd_cg fun m1 hm1 =>
  (l_iconst (show gPG 259 5 = some (.iconst 0) by decide +kernel) (c := 0) (by decide +kernel)).trans <|
  l_istore_n (show gPG 259 6 = some (.istore_n 1) by decide +kernel) (ls := [.ref a, .retAddr 0]) (show (1 : Nat) < 2 by decide) (show _ = ([.ref a, .int 0] : List Value) from rfl)
theorem b259_7 (d : Nat) (μ : jM) (a : Nat) (i1 : Int32) : jR (d + 1) 259 7 [.ref a, .int i1] [] μ = (if i1 < 4 then (if jrecv μ 13 (.ref a) = true then (jC d 191 [.ref a, .int 6, .int i1] μ).bind fun p3 => jR (d + 1) 259 19 [.ref a, .int i1] (p3.1.toList ++ []) p3.2 else none) else (jgI μ 13 14 (.ref a)).bind fun x1 => (jpI μ 13 50 0 (.ref a) x1).bind fun m2 => jR (d + 1) 259 35 [.ref a, .int 0] [] m2) :=
  (l_iload_n (show gPG 259 7 = some (.iload_n 1) by decide +kernel) rfl).trans <|
  (l_iconst (show gPG 259 8 = some (.iconst 4) by decide +kernel) (c := 4) (by decide +kernel)).trans <|
  (l_cmp (show gPG 259 9 = some (.if_icmp .ge 16) by decide +kernel) (t := 25) (by decide +kernel)).trans <| jm_ge.trans <| ite_cg (
  (l_aload_n (show gPG 259 12 = some (.aload_n 0) by decide +kernel) rfl jr_ref).trans <|
  (l_bipush (show gPG 259 13 = some (.bipush 6) by decide +kernel) (c := 6) (by decide +kernel)).trans <|
  (l_iload_n (show gPG 259 15 = some (.iload_n 1) by decide +kernel) rfl).trans <|
  l_callV (u := 1) (v := .ref a) (as := [.int 6, .int i1]) (show gPG 259 16 = some (jinvI 1 157) by decide +kernel) (by decide) (cc := 191) (na := 3) (kd := 13) (q4 := 0) (z := 10) (rest := []) (by decide +kernel) (by decide +kernel)  rfl (show (3 : Nat) ≤ 3 by decide) rfl cs0 (by decide +kernel) (cai (cai (cav jr_ref ca0)))) (
  (l_aload_n (show gPG 259 25 = some (.aload_n 0) by decide +kernel) rfl jr_ref).trans <|
  (l_aload_n (show gPG 259 26 = some (.aload_n 0) by decide +kernel) rfl jr_ref).trans <|
  (l_gI (show gPG 259 27 = some (.getfield 149) by decide +kernel) (kd := 13) (sl := 14) (tc := 0) (fin := 0) (z := 0) (by decide +kernel) (by decide +kernel) (by decide +kernel)).trans <| bd_cg fun x1 hx1 =>
  (l_pI (show gPG 259 30 = some (.putfield 502) by decide +kernel) (kd := 13) (sl := 50) (tc := 0) (fin := 0) (z := 0) (by decide +kernel) (by decide +kernel) (by decide +kernel)).trans <| bd_cg fun m2 hm2 =>
  (l_iconst (show gPG 259 33 = some (.iconst 0) by decide +kernel) (c := 0) (by decide +kernel)).trans <|
  l_istore_n (show gPG 259 34 = some (.istore_n 1) by decide +kernel) (ls := [.ref a, .int i1]) (show (1 : Nat) < 2 by decide) (show _ = ([.ref a, .int 0] : List Value) from rfl))
theorem b259_19 (d : Nat) (μ : jM) (a : Nat) (i1 : Int32) : jR d 259 19 [.ref a, .int i1] [] μ = jR d 259 7 [.ref a, .int (i1 + 1)] [] μ :=
  (l_iinc (show gPG 259 19 = some (.iinc 1 1) by decide +kernel) (c := 1) (by decide +kernel) rfl (show _ = ([.ref a, .int (i1 + 1)] : List Value) from rfl)).trans <|
  l_goto (show gPG 259 22 = some (.goto (-15)) by decide +kernel) (t := 7) (by decide +kernel)
theorem b259_35 (d : Nat) (μ : jM) (a : Nat) (i1 : Int32) : jR (d + 1) 259 35 [.ref a, .int i1] [] μ = (jgI μ 13 14 (.ref a)).bind fun x1 => (if i1 < x1 then (if jrecv μ 13 (.ref a) = true then (jC d 190 [.ref a, .int i1, .int (7 + i1)] μ).bind fun p10 => jR (d + 1) 259 52 [.ref a, .int i1] (p10.1.toList ++ []) p10.2 else none) else (jgR μ 13 6 (.ref a)).bind fun w2 => (jgR μ 13 51 (.ref a)).bind fun w3 => (jcp μ w2 0 w3 0 3).bind fun m4 => (jgR m4 13 7 (.ref a)).bind fun w5 => (jgR m4 13 51 (.ref a)).bind fun w6 => (jcp m4 w5 0 w6 3 3).bind fun m7 => (jgR m7 13 0 (.ref a)).bind fun w8 => (jaI m7 w8 3).bind fun x9 => some (some (.int x9), m7)) :=
  (l_iload_n (show gPG 259 35 = some (.iload_n 1) by decide +kernel) rfl).trans <|
  (l_aload_n (show gPG 259 36 = some (.aload_n 0) by decide +kernel) rfl jr_ref).trans <|
  (l_gI (show gPG 259 37 = some (.getfield 149) by decide +kernel) (kd := 13) (sl := 14) (tc := 0) (fin := 0) (z := 0) (by decide +kernel) (by decide +kernel) (by decide +kernel)).trans <| bd_cg fun x1 hx1 =>
  (l_cmp (show gPG 259 40 = some (.if_icmp .ge 18) by decide +kernel) (t := 58) (by decide +kernel)).trans <| jm_ge.trans <| ite_cg (
  (l_aload_n (show gPG 259 43 = some (.aload_n 0) by decide +kernel) rfl jr_ref).trans <|
  (l_iload_n (show gPG 259 44 = some (.iload_n 1) by decide +kernel) rfl).trans <|
  (l_bipush (show gPG 259 45 = some (.bipush 7) by decide +kernel) (c := 7) (by decide +kernel)).trans <|
  (l_iload_n (show gPG 259 47 = some (.iload_n 1) by decide +kernel) rfl).trans <|
  (l_iadd (show gPG 259 48 = some (.iadd) by decide +kernel) ).trans <|
  l_callV (u := 1) (v := .ref a) (as := [.int i1, .int (7 + i1)]) (show gPG 259 49 = some (jinvI 1 153) by decide +kernel) (by decide) (cc := 190) (na := 3) (kd := 13) (q4 := 0) (z := 10) (rest := []) (by decide +kernel) (by decide +kernel)  rfl (show (3 : Nat) ≤ 3 by decide) rfl cs0 (by decide +kernel) (cai (cai (cav jr_ref ca0)))) (
  (l_aload_n (show gPG 259 58 = some (.aload_n 0) by decide +kernel) rfl jr_ref).trans <|
  (l_gR (show gPG 259 59 = some (.getfield 34) by decide +kernel) (kd := 13) (sl := 6) (tc := 1) (fin := 1) (z := 0) (by decide +kernel) (by decide +kernel) (by decide +kernel)).trans <| bd_cg fun w2 hw2 =>
  (l_iconst (show gPG 259 62 = some (.iconst 0) by decide +kernel) (c := 0) (by decide +kernel)).trans <|
  (l_aload_n (show gPG 259 63 = some (.aload_n 0) by decide +kernel) rfl jr_ref).trans <|
  (l_gR (show gPG 259 64 = some (.getfield 110) by decide +kernel) (kd := 13) (sl := 51) (tc := 1) (fin := 1) (z := 0) (by decide +kernel) (by decide +kernel) (by decide +kernel)).trans <| bd_cg fun w3 hw3 =>
  (l_iconst (show gPG 259 67 = some (.iconst 0) by decide +kernel) (c := 0) (by decide +kernel)).trans <|
  (l_iconst (show gPG 259 68 = some (.iconst 3) by decide +kernel) (c := 3) (by decide +kernel)).trans <|
  (l_acp (show gPG 259 69 = some (.invokestatic 143) by decide +kernel) (q3 := 99) (q4 := 0) (z := 19) (by decide +kernel) (by decide +kernel) (jr_gR hw2) (jr_gR hw3) cs0 (by decide +kernel)).trans <| bd_cg fun m4 hm4 =>
  (l_aload_n (show gPG 259 72 = some (.aload_n 0) by decide +kernel) rfl jr_ref).trans <|
  (l_gR (show gPG 259 73 = some (.getfield 37) by decide +kernel) (kd := 13) (sl := 7) (tc := 1) (fin := 1) (z := 0) (by decide +kernel) (by decide +kernel) (by decide +kernel)).trans <| bd_cg fun w5 hw5 =>
  (l_iconst (show gPG 259 76 = some (.iconst 0) by decide +kernel) (c := 0) (by decide +kernel)).trans <|
  (l_aload_n (show gPG 259 77 = some (.aload_n 0) by decide +kernel) rfl jr_ref).trans <|
  (l_gR (show gPG 259 78 = some (.getfield 110) by decide +kernel) (kd := 13) (sl := 51) (tc := 1) (fin := 1) (z := 0) (by decide +kernel) (by decide +kernel) (by decide +kernel)).trans <| bd_cg fun w6 hw6 =>
  (l_iconst (show gPG 259 81 = some (.iconst 3) by decide +kernel) (c := 3) (by decide +kernel)).trans <|
  (l_iconst (show gPG 259 82 = some (.iconst 3) by decide +kernel) (c := 3) (by decide +kernel)).trans <|
  (l_acp (show gPG 259 83 = some (.invokestatic 143) by decide +kernel) (q3 := 99) (q4 := 0) (z := 19) (by decide +kernel) (by decide +kernel) (jr_gR hw5) (jr_gR hw6) cs0 (by decide +kernel)).trans <| bd_cg fun m7 hm7 =>
  (l_aload_n (show gPG 259 86 = some (.aload_n 0) by decide +kernel) rfl jr_ref).trans <|
  (l_gR (show gPG 259 87 = some (.getfield 11) by decide +kernel) (kd := 13) (sl := 0) (tc := 1) (fin := 1) (z := 0) (by decide +kernel) (by decide +kernel) (by decide +kernel)).trans <| bd_cg fun w8 hw8 =>
  (l_iconst (show gPG 259 90 = some (.iconst 3) by decide +kernel) (c := 3) (by decide +kernel)).trans <|
  (l_iald (show gPG 259 91 = some (.iaload) by decide +kernel) ).trans <| bd_cg fun x9 hx9 =>
  l_iret1 (show gPG 259 92 = some (.ireturn) by decide +kernel) (by decide +kernel))
theorem b259_52 (d : Nat) (μ : jM) (a : Nat) (i1 : Int32) : jR d 259 52 [.ref a, .int i1] [] μ = jR d 259 35 [.ref a, .int (i1 + 1)] [] μ :=
  (l_iinc (show gPG 259 52 = some (.iinc 1 1) by decide +kernel) (c := 1) (by decide +kernel) rfl (show _ = ([.ref a, .int (i1 + 1)] : List Value) from rfl)).trans <|
  l_goto (show gPG 259 55 = some (.goto (-20)) by decide +kernel) (t := 35) (by decide +kernel)
-- Ref.back
theorem b260_0 (d : Nat) (μ : jM) (a : Nat) : jR d 260 0 [.ref a, .retAddr 0] [] μ = (jgI μ 13 49 (.ref a)).bind fun x1 => (if x1 = 0 then some (some (.int (-3)), μ) else jR d 260 12 [.ref a, .int 0] [] μ) :=
  (l_aload_n (show gPG 260 0 = some (.aload_n 0) by decide +kernel) rfl jr_ref).trans <|
  (l_gI (show gPG 260 1 = some (.getfield 499) by decide +kernel) (kd := 13) (sl := 49) (tc := 2) (fin := 0) (z := 0) (by decide +kernel) (by decide +kernel) (by decide +kernel)).trans <| bd_cg fun x1 hx1 =>
  (l_cmp0 (show gPG 260 4 = some (.ifCond .ne 6) by decide +kernel) (t := 10) (by decide +kernel)).trans <| jm_ne.trans <| ite_cg (
  (l_bipush (show gPG 260 7 = some (.bipush (-3)) by decide +kernel) (c := (-3)) (by decide +kernel)).trans <|
  l_iret1 (show gPG 260 9 = some (.ireturn) by decide +kernel) (by decide +kernel)) (
  (l_iconst (show gPG 260 10 = some (.iconst 0) by decide +kernel) (c := 0) (by decide +kernel)).trans <|
  l_istore_n (show gPG 260 11 = some (.istore_n 1) by decide +kernel) (ls := [.ref a, .retAddr 0]) (show (1 : Nat) < 2 by decide) (show _ = ([.ref a, .int 0] : List Value) from rfl))
theorem b260_12 (d : Nat) (μ : jM) (a : Nat) (i1 : Int32) : jR (d + 1) 260 12 [.ref a, .int i1] [] μ = (if i1 < 4 then (if jrecv μ 13 (.ref a) = true then (jC d 162 [.ref a, .int 6, .int i1] μ).bind fun p3 => jR (d + 1) 260 24 [.ref a, .int i1] (p3.1.toList ++ []) p3.2 else none) else (jgI μ 13 50 (.ref a)).bind fun x1 => (jpI μ 13 14 0 (.ref a) x1).bind fun m2 => jR (d + 1) 260 40 [.ref a, .int 0] [] m2) :=
  (l_iload_n (show gPG 260 12 = some (.iload_n 1) by decide +kernel) rfl).trans <|
  (l_iconst (show gPG 260 13 = some (.iconst 4) by decide +kernel) (c := 4) (by decide +kernel)).trans <|
  (l_cmp (show gPG 260 14 = some (.if_icmp .ge 16) by decide +kernel) (t := 30) (by decide +kernel)).trans <| jm_ge.trans <| ite_cg (
  (l_aload_n (show gPG 260 17 = some (.aload_n 0) by decide +kernel) rfl jr_ref).trans <|
  (l_bipush (show gPG 260 18 = some (.bipush 6) by decide +kernel) (c := 6) (by decide +kernel)).trans <|
  (l_iload_n (show gPG 260 20 = some (.iload_n 1) by decide +kernel) rfl).trans <|
  l_callV (u := 1) (v := .ref a) (as := [.int 6, .int i1]) (show gPG 260 21 = some (jinvI 1 170) by decide +kernel) (by decide) (cc := 162) (na := 3) (kd := 13) (q4 := 0) (z := 10) (rest := []) (by decide +kernel) (by decide +kernel)  rfl (show (3 : Nat) ≤ 3 by decide) rfl cs0 (by decide +kernel) (cai (cai (cav jr_ref ca0)))) (
  (l_aload_n (show gPG 260 30 = some (.aload_n 0) by decide +kernel) rfl jr_ref).trans <|
  (l_aload_n (show gPG 260 31 = some (.aload_n 0) by decide +kernel) rfl jr_ref).trans <|
  (l_gI (show gPG 260 32 = some (.getfield 502) by decide +kernel) (kd := 13) (sl := 50) (tc := 0) (fin := 0) (z := 0) (by decide +kernel) (by decide +kernel) (by decide +kernel)).trans <| bd_cg fun x1 hx1 =>
  (l_pI (show gPG 260 35 = some (.putfield 149) by decide +kernel) (kd := 13) (sl := 14) (tc := 0) (fin := 0) (z := 0) (by decide +kernel) (by decide +kernel) (by decide +kernel)).trans <| bd_cg fun m2 hm2 =>
  (l_iconst (show gPG 260 38 = some (.iconst 0) by decide +kernel) (c := 0) (by decide +kernel)).trans <|
  l_istore_n (show gPG 260 39 = some (.istore_n 1) by decide +kernel) (ls := [.ref a, .int i1]) (show (1 : Nat) < 2 by decide) (show _ = ([.ref a, .int 0] : List Value) from rfl))
theorem b260_24 (d : Nat) (μ : jM) (a : Nat) (i1 : Int32) : jR d 260 24 [.ref a, .int i1] [] μ = jR d 260 12 [.ref a, .int (i1 + 1)] [] μ :=
  (l_iinc (show gPG 260 24 = some (.iinc 1 1) by decide +kernel) (c := 1) (by decide +kernel) rfl (show _ = ([.ref a, .int (i1 + 1)] : List Value) from rfl)).trans <|
  l_goto (show gPG 260 27 = some (.goto (-15)) by decide +kernel) (t := 12) (by decide +kernel)
theorem b260_40 (d : Nat) (μ : jM) (a : Nat) (i1 : Int32) : jR (d + 1) 260 40 [.ref a, .int i1] [] μ = (jgI μ 13 14 (.ref a)).bind fun x1 => (if i1 < x1 then (if jrecv μ 13 (.ref a) = true then (jC d 190 [.ref a, .int (7 + i1), .int i1] μ).bind fun p9 => jR (d + 1) 260 57 [.ref a, .int i1] (p9.1.toList ++ []) p9.2 else none) else (jgR μ 13 51 (.ref a)).bind fun w2 => (jgR μ 13 6 (.ref a)).bind fun w3 => (jcp μ w2 0 w3 0 3).bind fun m4 => (jgR m4 13 51 (.ref a)).bind fun w5 => (jgR m4 13 7 (.ref a)).bind fun w6 => (jcp m4 w5 3 w6 0 3).bind fun m7 => (if jrecv m7 13 (.ref a) = true then (jC d 163 [.ref a] m7).bind fun p8 => jR (d + 1) 260 95 [.ref a, .int i1] (p8.1.toList ++ []) p8.2 else none)) :=
  (l_iload_n (show gPG 260 40 = some (.iload_n 1) by decide +kernel) rfl).trans <|
  (l_aload_n (show gPG 260 41 = some (.aload_n 0) by decide +kernel) rfl jr_ref).trans <|
  (l_gI (show gPG 260 42 = some (.getfield 149) by decide +kernel) (kd := 13) (sl := 14) (tc := 0) (fin := 0) (z := 0) (by decide +kernel) (by decide +kernel) (by decide +kernel)).trans <| bd_cg fun x1 hx1 =>
  (l_cmp (show gPG 260 45 = some (.if_icmp .ge 18) by decide +kernel) (t := 63) (by decide +kernel)).trans <| jm_ge.trans <| ite_cg (
  (l_aload_n (show gPG 260 48 = some (.aload_n 0) by decide +kernel) rfl jr_ref).trans <|
  (l_bipush (show gPG 260 49 = some (.bipush 7) by decide +kernel) (c := 7) (by decide +kernel)).trans <|
  (l_iload_n (show gPG 260 51 = some (.iload_n 1) by decide +kernel) rfl).trans <|
  (l_iadd (show gPG 260 52 = some (.iadd) by decide +kernel) ).trans <|
  (l_iload_n (show gPG 260 53 = some (.iload_n 1) by decide +kernel) rfl).trans <|
  l_callV (u := 1) (v := .ref a) (as := [.int (7 + i1), .int i1]) (show gPG 260 54 = some (jinvI 1 153) by decide +kernel) (by decide) (cc := 190) (na := 3) (kd := 13) (q4 := 0) (z := 10) (rest := []) (by decide +kernel) (by decide +kernel)  rfl (show (3 : Nat) ≤ 3 by decide) rfl cs0 (by decide +kernel) (cai (cai (cav jr_ref ca0)))) (
  (l_aload_n (show gPG 260 63 = some (.aload_n 0) by decide +kernel) rfl jr_ref).trans <|
  (l_gR (show gPG 260 64 = some (.getfield 110) by decide +kernel) (kd := 13) (sl := 51) (tc := 1) (fin := 1) (z := 0) (by decide +kernel) (by decide +kernel) (by decide +kernel)).trans <| bd_cg fun w2 hw2 =>
  (l_iconst (show gPG 260 67 = some (.iconst 0) by decide +kernel) (c := 0) (by decide +kernel)).trans <|
  (l_aload_n (show gPG 260 68 = some (.aload_n 0) by decide +kernel) rfl jr_ref).trans <|
  (l_gR (show gPG 260 69 = some (.getfield 34) by decide +kernel) (kd := 13) (sl := 6) (tc := 1) (fin := 1) (z := 0) (by decide +kernel) (by decide +kernel) (by decide +kernel)).trans <| bd_cg fun w3 hw3 =>
  (l_iconst (show gPG 260 72 = some (.iconst 0) by decide +kernel) (c := 0) (by decide +kernel)).trans <|
  (l_iconst (show gPG 260 73 = some (.iconst 3) by decide +kernel) (c := 3) (by decide +kernel)).trans <|
  (l_acp (show gPG 260 74 = some (.invokestatic 143) by decide +kernel) (q3 := 99) (q4 := 0) (z := 19) (by decide +kernel) (by decide +kernel) (jr_gR hw2) (jr_gR hw3) cs0 (by decide +kernel)).trans <| bd_cg fun m4 hm4 =>
  (l_aload_n (show gPG 260 77 = some (.aload_n 0) by decide +kernel) rfl jr_ref).trans <|
  (l_gR (show gPG 260 78 = some (.getfield 110) by decide +kernel) (kd := 13) (sl := 51) (tc := 1) (fin := 1) (z := 0) (by decide +kernel) (by decide +kernel) (by decide +kernel)).trans <| bd_cg fun w5 hw5 =>
  (l_iconst (show gPG 260 81 = some (.iconst 3) by decide +kernel) (c := 3) (by decide +kernel)).trans <|
  (l_aload_n (show gPG 260 82 = some (.aload_n 0) by decide +kernel) rfl jr_ref).trans <|
  (l_gR (show gPG 260 83 = some (.getfield 37) by decide +kernel) (kd := 13) (sl := 7) (tc := 1) (fin := 1) (z := 0) (by decide +kernel) (by decide +kernel) (by decide +kernel)).trans <| bd_cg fun w6 hw6 =>
  (l_iconst (show gPG 260 86 = some (.iconst 0) by decide +kernel) (c := 0) (by decide +kernel)).trans <|
  (l_iconst (show gPG 260 87 = some (.iconst 3) by decide +kernel) (c := 3) (by decide +kernel)).trans <|
  (l_acp (show gPG 260 88 = some (.invokestatic 143) by decide +kernel) (q3 := 99) (q4 := 0) (z := 19) (by decide +kernel) (by decide +kernel) (jr_gR hw5) (jr_gR hw6) cs0 (by decide +kernel)).trans <| bd_cg fun m7 hm7 =>
  (l_aload_n (show gPG 260 91 = some (.aload_n 0) by decide +kernel) rfl jr_ref).trans <|
  l_callV (u := 1) (v := .ref a) (as := []) (show gPG 260 92 = some (jinvI 1 160) by decide +kernel) (by decide) (cc := 163) (na := 1) (kd := 13) (q4 := 0) (z := 10) (rest := []) (by decide +kernel) (by decide +kernel)  rfl (show (1 : Nat) ≤ 1 by decide) rfl cs0 (by decide +kernel) (cav jr_ref ca0))
theorem b260_57 (d : Nat) (μ : jM) (a : Nat) (i1 : Int32) : jR d 260 57 [.ref a, .int i1] [] μ = jR d 260 40 [.ref a, .int (i1 + 1)] [] μ :=
  (l_iinc (show gPG 260 57 = some (.iinc 1 1) by decide +kernel) (c := 1) (by decide +kernel) rfl (show _ = ([.ref a, .int (i1 + 1)] : List Value) from rfl)).trans <|
  l_goto (show gPG 260 60 = some (.goto (-20)) by decide +kernel) (t := 40) (by decide +kernel)
theorem b260_95 (d : Nat) (μ : jM) (a : Nat) (u1 : Value) : jR d 260 95 [.ref a, u1] [] μ = (jgR μ 13 0 (.ref a)).bind fun w1 => (jaI μ w1 3).bind fun x2 => some (some (.int x2), μ) :=
  (l_aload_n (show gPG 260 95 = some (.aload_n 0) by decide +kernel) rfl jr_ref).trans <|
  (l_gR (show gPG 260 96 = some (.getfield 11) by decide +kernel) (kd := 13) (sl := 0) (tc := 1) (fin := 1) (z := 0) (by decide +kernel) (by decide +kernel) (by decide +kernel)).trans <| bd_cg fun w1 hw1 =>
  (l_iconst (show gPG 260 99 = some (.iconst 3) by decide +kernel) (c := 3) (by decide +kernel)).trans <|
  (l_iald (show gPG 260 100 = some (.iaload) by decide +kernel) ).trans <| bd_cg fun x2 hx2 =>
  l_iret1 (show gPG 260 101 = some (.ireturn) by decide +kernel) (by decide +kernel)
-- Ref.count
theorem b261_0 (d : Nat) (μ : jM) (a : Nat) (i1 : Int32) : jR (d + 1) 261 0 [.ref a, .int i1] [] μ = (jC d 165 [.int i1, .int 0, .int 7] μ).bind fun p1 => jR (d + 1) 261 7 [.ref a, .int i1] (p1.1.toList ++ []) p1.2 :=
  (l_iload_n (show gPG 261 0 = some (.iload_n 1) by decide +kernel) rfl).trans <|
  (l_iconst (show gPG 261 1 = some (.iconst 0) by decide +kernel) (c := 0) (by decide +kernel)).trans <|
  (l_bipush (show gPG 261 2 = some (.bipush 7) by decide +kernel) (c := 7) (by decide +kernel)).trans <|
  l_callS (u := 2) (as := [.int i1, .int 0, .int 7]) (show gPG 261 4 = some (jinvI 2 125) by decide +kernel) (by decide) (cc := 165) (na := 3) (q4 := 0) (z := 12) (rest := []) (by decide +kernel) (by decide +kernel)  rfl (show (3 : Nat) ≤ 3 by decide) rfl cs0 (by decide +kernel) (cai (cai (cai ca0))) (fun e => absurd e (by decide))
theorem b261_7 (d : Nat) (μ : jM) (a : Nat) (i1 : Int32) (s0 : Int32) : jR (d + 1) 261 7 [.ref a, .int i1] [.int s0] μ = (if s0 = 0 then some (some (.int (-2)), μ) else (if i1 < 4 then (jgR μ 13 0 (.ref a)).bind fun w5 => (jaI μ w5 i1).bind fun x6 => jR (d + 1) 261 68 [.ref a, .int i1] [.int x6] μ else (if i1 = 4 then (jgI μ 13 35 (.ref a)).bind fun x4 => jR (d + 1) 261 68 [.ref a, .int i1] [.int x4] μ else (if i1 = 5 then (if jrecv μ 13 (.ref a) = true then (jC d 243 [.ref a] μ).bind fun p3 => jR (d + 1) 261 48 [.ref a, .int i1] (p3.1.toList ++ []) p3.2 else none) else (if i1 = 6 then (jgI μ 13 14 (.ref a)).bind fun x2 => jR (d + 1) 261 68 [.ref a, .int i1] [.int x2] μ else (jgI μ 13 16 (.ref a)).bind fun x1 => jR (d + 1) 261 68 [.ref a, .int i1] [.int x1] μ))))) :=
  (l_cmp0 (show gPG 261 7 = some (.ifCond .ne 6) by decide +kernel) (t := 13) (by decide +kernel)).trans <| jm_ne.trans <| ite_cg (
  (l_bipush (show gPG 261 10 = some (.bipush (-2)) by decide +kernel) (c := (-2)) (by decide +kernel)).trans <|
  l_iret1 (show gPG 261 12 = some (.ireturn) by decide +kernel) (by decide +kernel)) (
  (l_iload_n (show gPG 261 13 = some (.iload_n 1) by decide +kernel) rfl).trans <|
  (l_iconst (show gPG 261 14 = some (.iconst 4) by decide +kernel) (c := 4) (by decide +kernel)).trans <|
  (l_cmp (show gPG 261 15 = some (.if_icmp .ge 12) by decide +kernel) (t := 27) (by decide +kernel)).trans <| jm_ge.trans <| ite_cg (
  (l_aload_n (show gPG 261 18 = some (.aload_n 0) by decide +kernel) rfl jr_ref).trans <|
  (l_gR (show gPG 261 19 = some (.getfield 11) by decide +kernel) (kd := 13) (sl := 0) (tc := 1) (fin := 1) (z := 0) (by decide +kernel) (by decide +kernel) (by decide +kernel)).trans <| bd_cg fun w5 hw5 =>
  (l_iload_n (show gPG 261 22 = some (.iload_n 1) by decide +kernel) rfl).trans <|
  (l_iald (show gPG 261 23 = some (.iaload) by decide +kernel) ).trans <| bd_cg fun x6 hx6 =>
  l_goto (show gPG 261 24 = some (.goto 44) by decide +kernel) (t := 68) (by decide +kernel)) (
  (l_iload_n (show gPG 261 27 = some (.iload_n 1) by decide +kernel) rfl).trans <|
  (l_iconst (show gPG 261 28 = some (.iconst 4) by decide +kernel) (c := 4) (by decide +kernel)).trans <|
  (l_cmp (show gPG 261 29 = some (.if_icmp .ne 10) by decide +kernel) (t := 39) (by decide +kernel)).trans <| jm_ne.trans <| ite_cg (
  (l_aload_n (show gPG 261 32 = some (.aload_n 0) by decide +kernel) rfl jr_ref).trans <|
  (l_gI (show gPG 261 33 = some (.getfield 163) by decide +kernel) (kd := 13) (sl := 35) (tc := 0) (fin := 0) (z := 0) (by decide +kernel) (by decide +kernel) (by decide +kernel)).trans <| bd_cg fun x4 hx4 =>
  l_goto (show gPG 261 36 = some (.goto 32) by decide +kernel) (t := 68) (by decide +kernel)) (
  (l_iload_n (show gPG 261 39 = some (.iload_n 1) by decide +kernel) rfl).trans <|
  (l_iconst (show gPG 261 40 = some (.iconst 5) by decide +kernel) (c := 5) (by decide +kernel)).trans <|
  (l_cmp (show gPG 261 41 = some (.if_icmp .ne 10) by decide +kernel) (t := 51) (by decide +kernel)).trans <| jm_ne.trans <| ite_cg (
  (l_aload_n (show gPG 261 44 = some (.aload_n 0) by decide +kernel) rfl jr_ref).trans <|
  l_callV (u := 1) (v := .ref a) (as := []) (show gPG 261 45 = some (jinvI 1 462) by decide +kernel) (by decide) (cc := 243) (na := 1) (kd := 13) (q4 := 0) (z := 10) (rest := []) (by decide +kernel) (by decide +kernel)  rfl (show (1 : Nat) ≤ 1 by decide) rfl cs0 (by decide +kernel) (cav jr_ref ca0)) (
  (l_iload_n (show gPG 261 51 = some (.iload_n 1) by decide +kernel) rfl).trans <|
  (l_bipush (show gPG 261 52 = some (.bipush 6) by decide +kernel) (c := 6) (by decide +kernel)).trans <|
  (l_cmp (show gPG 261 54 = some (.if_icmp .ne 10) by decide +kernel) (t := 64) (by decide +kernel)).trans <| jm_ne.trans <| ite_cg (
  (l_aload_n (show gPG 261 57 = some (.aload_n 0) by decide +kernel) rfl jr_ref).trans <|
  (l_gI (show gPG 261 58 = some (.getfield 149) by decide +kernel) (kd := 13) (sl := 14) (tc := 0) (fin := 0) (z := 0) (by decide +kernel) (by decide +kernel) (by decide +kernel)).trans <| bd_cg fun x2 hx2 =>
  l_goto (show gPG 261 61 = some (.goto 7) by decide +kernel) (t := 68) (by decide +kernel)) (
  (l_aload_n (show gPG 261 64 = some (.aload_n 0) by decide +kernel) rfl jr_ref).trans <|
  (l_gI (show gPG 261 65 = some (.getfield 176) by decide +kernel) (kd := 13) (sl := 16) (tc := 0) (fin := 0) (z := 0) (by decide +kernel) (by decide +kernel) (by decide +kernel)).trans <| bd_cg fun x1 hx1 =>
  rfl)))))
theorem b261_48 (d : Nat) (μ : jM) (u0 : Value) (u1 : Value) (s0 : Int32) : jR d 261 48 [u0, u1] [.int s0] μ = jR d 261 68 [u0, u1] [.int s0] μ :=
  l_goto (show gPG 261 48 = some (.goto 20) by decide +kernel) (t := 68) (by decide +kernel)
theorem b261_68 (d : Nat) (μ : jM) (u0 : Value) (u1 : Value) (s0 : Int32) : jR d 261 68 [u0, u1] [.int s0] μ = some (some (.int s0), μ) :=
  l_iret1 (show gPG 261 68 = some (.ireturn) by decide +kernel) (by decide +kernel)
-- Ref.sheet
theorem b262_0 (d : Nat) (μ : jM) (a : Nat) (i1 : Int32) (i2 : Int32) (i3 : Int32) : jR (d + 1) 262 0 [.ref a, .int i1, .int i2, .int i3, .retAddr 0] [] μ = (jC d 256 [.int i1] μ).bind fun p1 => jR (d + 1) 262 4 [.ref a, .int i1, .int i2, .int i3, .retAddr 0] (p1.1.toList ++ []) p1.2 :=
  (l_iload_n (show gPG 262 0 = some (.iload_n 1) by decide +kernel) rfl).trans <|
  l_callS (u := 2) (as := [.int i1]) (show gPG 262 1 = some (jinvI 2 493) by decide +kernel) (by decide) (cc := 256) (na := 1) (q4 := 0) (z := 12) (rest := []) (by decide +kernel) (by decide +kernel)  rfl (show (1 : Nat) ≤ 1 by decide) rfl cs0 (by decide +kernel) (cai ca0) (fun e => absurd e (by decide))
theorem b262_4 (d : Nat) (μ : jM) (a : Nat) (i1 : Int32) (i2 : Int32) (i3 : Int32) (u4 : Value) (s0 : Int32) : jR (d + 1) 262 4 [.ref a, .int i1, .int i2, .int i3, u4] [.int s0] μ = (if s0 = 0 then jR (d + 1) 262 26 [.ref a, .int i1, .int i2, .int i3, u4] [] μ else (jC d 165 [.int i2, .int (-1), .int 1] μ).bind fun p1 => jR (d + 1) 262 13 [.ref a, .int i1, .int i2, .int i3, u4] (p1.1.toList ++ []) p1.2) :=
  (l_cmp0 (show gPG 262 4 = some (.ifCond .eq 22) by decide +kernel) (t := 26) (by decide +kernel)).trans <| jm_eq.trans <| ite_cg (
  rfl) (
  (l_iload_n (show gPG 262 7 = some (.iload_n 2) by decide +kernel) rfl).trans <|
  (l_iconst (show gPG 262 8 = some (.iconst (-1)) by decide +kernel) (c := (-1)) (by decide +kernel)).trans <|
  (l_iconst (show gPG 262 9 = some (.iconst 1) by decide +kernel) (c := 1) (by decide +kernel)).trans <|
  l_callS (u := 2) (as := [.int i2, .int (-1), .int 1]) (show gPG 262 10 = some (jinvI 2 125) by decide +kernel) (by decide) (cc := 165) (na := 3) (q4 := 0) (z := 12) (rest := []) (by decide +kernel) (by decide +kernel)  rfl (show (3 : Nat) ≤ 3 by decide) rfl cs0 (by decide +kernel) (cai (cai (cai ca0))) (fun e => absurd e (by decide)))
theorem b262_13 (d : Nat) (μ : jM) (a : Nat) (i1 : Int32) (i2 : Int32) (i3 : Int32) (u4 : Value) (s0 : Int32) : jR d 262 13 [.ref a, .int i1, .int i2, .int i3, u4] [.int s0] μ = (if s0 = 0 then jR d 262 26 [.ref a, .int i1, .int i2, .int i3, u4] [] μ else (if i2 < 0 then jR d 262 29 [.ref a, .int i1, .int i2, .int i3, u4] [] μ else (if 40 < i3 then jR d 262 26 [.ref a, .int i1, .int i2, .int i3, u4] [] μ else jR d 262 29 [.ref a, .int i1, .int i2, .int i3, u4] [] μ))) :=
  (l_cmp0 (show gPG 262 13 = some (.ifCond .eq 13) by decide +kernel) (t := 26) (by decide +kernel)).trans <| jm_eq.trans <| ite_cg (
  rfl) (
  (l_iload_n (show gPG 262 16 = some (.iload_n 2) by decide +kernel) rfl).trans <|
  (l_cmp0 (show gPG 262 17 = some (.ifCond .lt 12) by decide +kernel) (t := 29) (by decide +kernel)).trans <| jm_lt.trans <| ite_cg (
  rfl) (
  (l_iload_n (show gPG 262 20 = some (.iload_n 3) by decide +kernel) rfl).trans <|
  (l_bipush (show gPG 262 21 = some (.bipush 40) by decide +kernel) (c := 40) (by decide +kernel)).trans <|
  (l_cmp (show gPG 262 23 = some (.if_icmp .le 6) by decide +kernel) (t := 29) (by decide +kernel)).trans <| jm_le.trans <| ite_cg (
  rfl) (
  rfl)))
theorem b262_26 (d : Nat) (μ : jM) (u0 : Value) (u1 : Value) (u2 : Value) (u3 : Value) (u4 : Value) : jR d 262 26 [u0, u1, u2, u3, u4] [] μ = some (some (.int (-2)), μ) :=
  (l_bipush (show gPG 262 26 = some (.bipush (-2)) by decide +kernel) (c := (-2)) (by decide +kernel)).trans <|
  l_iret1 (show gPG 262 28 = some (.ireturn) by decide +kernel) (by decide +kernel)
theorem b262_29 (d : Nat) (μ : jM) (a : Nat) (i1 : Int32) (i2 : Int32) (i3 : Int32) (u4 : Value) : jR d 262 29 [.ref a, .int i1, .int i2, .int i3, u4] [] μ = (if i2 < 0 then jR d 262 40 [.ref a, .int i1, .int i2, .int i3, u4] [] μ else (if i3 < 0 then some (some (.int (-14)), μ) else jR d 262 40 [.ref a, .int i1, .int i2, .int i3, u4] [] μ)) :=
  (l_iload_n (show gPG 262 29 = some (.iload_n 2) by decide +kernel) rfl).trans <|
  (l_cmp0 (show gPG 262 30 = some (.ifCond .lt 10) by decide +kernel) (t := 40) (by decide +kernel)).trans <| jm_lt.trans <| ite_cg (
  rfl) (
  (l_iload_n (show gPG 262 33 = some (.iload_n 3) by decide +kernel) rfl).trans <|
  (l_cmp0 (show gPG 262 34 = some (.ifCond .ge 6) by decide +kernel) (t := 40) (by decide +kernel)).trans <| jm_ge.trans <| ite_cg (
  (l_bipush (show gPG 262 37 = some (.bipush (-14)) by decide +kernel) (c := (-14)) (by decide +kernel)).trans <|
  l_iret1 (show gPG 262 39 = some (.ireturn) by decide +kernel) (by decide +kernel)) (
  rfl))
theorem b262_40 (d : Nat) (μ : jM) (a : Nat) (i1 : Int32) (i2 : Int32) (i3 : Int32) (u4 : Value) : jR d 262 40 [.ref a, .int i1, .int i2, .int i3, u4] [] μ = (jgR μ 13 52 (.ref a)).bind fun w1 => (jsI μ w1 i1 i2).bind fun m2 => (jgR m2 13 53 (.ref a)).bind fun w3 => (if i2 < 0 then jR d 262 61 [.ref a, .int i1, .int i2, .int i3, u4] [.int 0, .int i1, w3] m2 else jR d 262 61 [.ref a, .int i1, .int i2, .int i3, u4] [.int i3, .int i1, w3] m2) :=
  (l_aload_n (show gPG 262 40 = some (.aload_n 0) by decide +kernel) rfl jr_ref).trans <|
  (l_gR (show gPG 262 41 = some (.getfield 113) by decide +kernel) (kd := 13) (sl := 52) (tc := 1) (fin := 1) (z := 0) (by decide +kernel) (by decide +kernel) (by decide +kernel)).trans <| bd_cg fun w1 hw1 =>
  (l_iload_n (show gPG 262 44 = some (.iload_n 1) by decide +kernel) rfl).trans <|
  (l_iload_n (show gPG 262 45 = some (.iload_n 2) by decide +kernel) rfl).trans <|
  (l_iast (show gPG 262 46 = some (.iastore) by decide +kernel) ).trans <| bd_cg fun m2 hm2 =>
  (l_aload_n (show gPG 262 47 = some (.aload_n 0) by decide +kernel) rfl jr_ref).trans <|
  (l_gR (show gPG 262 48 = some (.getfield 116) by decide +kernel) (kd := 13) (sl := 53) (tc := 1) (fin := 1) (z := 0) (by decide +kernel) (by decide +kernel) (by decide +kernel)).trans <| bd_cg fun w3 hw3 =>
  (l_iload_n (show gPG 262 51 = some (.iload_n 1) by decide +kernel) rfl).trans <|
  (l_iload_n (show gPG 262 52 = some (.iload_n 2) by decide +kernel) rfl).trans <|
  (l_cmp0 (show gPG 262 53 = some (.ifCond .ge 7) by decide +kernel) (t := 60) (by decide +kernel)).trans <| jm_ge.trans <| ite_cg (
  (l_iconst (show gPG 262 56 = some (.iconst 0) by decide +kernel) (c := 0) (by decide +kernel)).trans <|
  l_goto (show gPG 262 57 = some (.goto 4) by decide +kernel) (t := 61) (by decide +kernel)) (
  l_iload_n (show gPG 262 60 = some (.iload_n 3) by decide +kernel) rfl)
theorem b262_61 (d : Nat) (μ : jM) (a : Nat) (i1 : Int32) (u2 : Value) (u3 : Value) (u4 : Value) (s0 : Value) (s1 : Int32) (s2 : Int32) (hs0 : jisref s0 = true) : jR d 262 61 [.ref a, .int i1, u2, u3, u4] [.int s2, .int s1, s0] μ = (jsI μ s0 s1 s2).bind fun m1 => jR d 262 65 [.ref a, .int i1, u2, u3, .int 0] [] m1 :=
  (l_iast (show gPG 262 61 = some (.iastore) by decide +kernel) ).trans <| bd_cg fun m1 hm1 =>
  (l_iconst (show gPG 262 62 = some (.iconst 0) by decide +kernel) (c := 0) (by decide +kernel)).trans <|
  l_istore (show gPG 262 63 = some (.istore 4) by decide +kernel) (ls := [.ref a, .int i1, u2, u3, u4]) (show (4 : Nat) < 5 by decide) (show _ = ([.ref a, .int i1, u2, u3, .int 0] : List Value) from rfl)
theorem b262_65 (d : Nat) (μ : jM) (a : Nat) (i1 : Int32) (u2 : Value) (u3 : Value) (i4 : Int32) : jR d 262 65 [.ref a, .int i1, u2, u3, .int i4] [] μ = (if i4 < 40 then (jgR μ 13 54 (.ref a)).bind fun w1 => (jaR μ w1 i1).bind fun w2 => (jsI μ w2 i4 0).bind fun m3 => jR d 262 65 [.ref a, .int i1, u2, u3, .int (i4 + 1)] [] m3 else some (some (.int 1), μ)) :=
  (l_iload (show gPG 262 65 = some (.iload 4) by decide +kernel) rfl).trans <|
  (l_bipush (show gPG 262 67 = some (.bipush 40) by decide +kernel) (c := 40) (by decide +kernel)).trans <|
  (l_cmp (show gPG 262 69 = some (.if_icmp .ge 19) by decide +kernel) (t := 88) (by decide +kernel)).trans <| jm_ge.trans <| ite_cg (
  (l_aload_n (show gPG 262 72 = some (.aload_n 0) by decide +kernel) rfl jr_ref).trans <|
  (l_gR (show gPG 262 73 = some (.getfield 119) by decide +kernel) (kd := 13) (sl := 54) (tc := 1) (fin := 1) (z := 0) (by decide +kernel) (by decide +kernel) (by decide +kernel)).trans <| bd_cg fun w1 hw1 =>
  (l_iload_n (show gPG 262 76 = some (.iload_n 1) by decide +kernel) rfl).trans <|
  (l_aald (show gPG 262 77 = some (.aaload) by decide +kernel) ).trans <| bd_cg fun w2 hw2 =>
  (l_iload (show gPG 262 78 = some (.iload 4) by decide +kernel) rfl).trans <|
  (l_iconst (show gPG 262 80 = some (.iconst 0) by decide +kernel) (c := 0) (by decide +kernel)).trans <|
  (l_iast (show gPG 262 81 = some (.iastore) by decide +kernel) ).trans <| bd_cg fun m3 hm3 =>
  (l_iinc (show gPG 262 82 = some (.iinc 4 1) by decide +kernel) (c := 1) (by decide +kernel) rfl (show _ = ([.ref a, .int i1, u2, u3, .int (i4 + 1)] : List Value) from rfl)).trans <|
  l_goto (show gPG 262 85 = some (.goto (-20)) by decide +kernel) (t := 65) (by decide +kernel)) (
  (l_iconst (show gPG 262 88 = some (.iconst 1) by decide +kernel) (c := 1) (by decide +kernel)).trans <|
  l_iret1 (show gPG 262 89 = some (.ireturn) by decide +kernel) (by decide +kernel))
-- Ref.put/III
theorem b263_0 (d : Nat) (μ : jM) (a : Nat) (i1 : Int32) (i2 : Int32) (i3 : Int32) : jR (d + 1) 263 0 [.ref a, .int i1, .int i2, .int i3] [] μ = (jC d 256 [.int i1] μ).bind fun p1 => jR (d + 1) 263 4 [.ref a, .int i1, .int i2, .int i3] (p1.1.toList ++ []) p1.2 :=
  (l_iload_n (show gPG 263 0 = some (.iload_n 1) by decide +kernel) rfl).trans <|
  l_callS (u := 2) (as := [.int i1]) (show gPG 263 1 = some (jinvI 2 493) by decide +kernel) (by decide) (cc := 256) (na := 1) (q4 := 0) (z := 12) (rest := []) (by decide +kernel) (by decide +kernel)  rfl (show (1 : Nat) ≤ 1 by decide) rfl cs0 (by decide +kernel) (cai ca0) (fun e => absurd e (by decide))
theorem b263_4 (d : Nat) (μ : jM) (a : Nat) (i1 : Int32) (i2 : Int32) (i3 : Int32) (s0 : Int32) : jR (d + 1) 263 4 [.ref a, .int i1, .int i2, .int i3] [.int s0] μ = (if s0 = 0 then some (some (.int (-2)), μ) else (jgR μ 13 52 (.ref a)).bind fun w1 => (jaI μ w1 i1).bind fun x2 => (if x2 < 0 then some (some (.int (-11)), μ) else (jgR μ 13 53 (.ref a)).bind fun w3 => (jaI μ w3 i1).bind fun x4 => (jC d 165 [.int i2, .int 0, .int (x4 - 1)] μ).bind fun p5 => jR (d + 1) 263 35 [.ref a, .int i1, .int i2, .int i3] (p5.1.toList ++ []) p5.2)) :=
  (l_cmp0 (show gPG 263 4 = some (.ifCond .ne 6) by decide +kernel) (t := 10) (by decide +kernel)).trans <| jm_ne.trans <| ite_cg (
  (l_bipush (show gPG 263 7 = some (.bipush (-2)) by decide +kernel) (c := (-2)) (by decide +kernel)).trans <|
  l_iret1 (show gPG 263 9 = some (.ireturn) by decide +kernel) (by decide +kernel)) (
  (l_aload_n (show gPG 263 10 = some (.aload_n 0) by decide +kernel) rfl jr_ref).trans <|
  (l_gR (show gPG 263 11 = some (.getfield 113) by decide +kernel) (kd := 13) (sl := 52) (tc := 1) (fin := 1) (z := 0) (by decide +kernel) (by decide +kernel) (by decide +kernel)).trans <| bd_cg fun w1 hw1 =>
  (l_iload_n (show gPG 263 14 = some (.iload_n 1) by decide +kernel) rfl).trans <|
  (l_iald (show gPG 263 15 = some (.iaload) by decide +kernel) ).trans <| bd_cg fun x2 hx2 =>
  (l_cmp0 (show gPG 263 16 = some (.ifCond .ge 6) by decide +kernel) (t := 22) (by decide +kernel)).trans <| jm_ge.trans <| ite_cg (
  (l_bipush (show gPG 263 19 = some (.bipush (-11)) by decide +kernel) (c := (-11)) (by decide +kernel)).trans <|
  l_iret1 (show gPG 263 21 = some (.ireturn) by decide +kernel) (by decide +kernel)) (
  (l_iload_n (show gPG 263 22 = some (.iload_n 2) by decide +kernel) rfl).trans <|
  (l_iconst (show gPG 263 23 = some (.iconst 0) by decide +kernel) (c := 0) (by decide +kernel)).trans <|
  (l_aload_n (show gPG 263 24 = some (.aload_n 0) by decide +kernel) rfl jr_ref).trans <|
  (l_gR (show gPG 263 25 = some (.getfield 116) by decide +kernel) (kd := 13) (sl := 53) (tc := 1) (fin := 1) (z := 0) (by decide +kernel) (by decide +kernel) (by decide +kernel)).trans <| bd_cg fun w3 hw3 =>
  (l_iload_n (show gPG 263 28 = some (.iload_n 1) by decide +kernel) rfl).trans <|
  (l_iald (show gPG 263 29 = some (.iaload) by decide +kernel) ).trans <| bd_cg fun x4 hx4 =>
  (l_iconst (show gPG 263 30 = some (.iconst 1) by decide +kernel) (c := 1) (by decide +kernel)).trans <|
  (l_isub (show gPG 263 31 = some (.isub) by decide +kernel) ).trans <|
  l_callS (u := 2) (as := [.int i2, .int 0, .int (x4 - 1)]) (show gPG 263 32 = some (jinvI 2 125) by decide +kernel) (by decide) (cc := 165) (na := 3) (q4 := 0) (z := 12) (rest := []) (by decide +kernel) (by decide +kernel)  rfl (show (3 : Nat) ≤ 3 by decide) rfl cs0 (by decide +kernel) (cai (cai (cai ca0))) (fun e => absurd e (by decide))))
theorem b263_35 (d : Nat) (μ : jM) (a : Nat) (i1 : Int32) (i2 : Int32) (i3 : Int32) (s0 : Int32) : jR d 263 35 [.ref a, .int i1, .int i2, .int i3] [.int s0] μ = (if s0 = 0 then some (some (.int (-12)), μ) else (jgR μ 13 54 (.ref a)).bind fun w1 => (jaR μ w1 i1).bind fun w2 => (jgR μ 13 52 (.ref a)).bind fun w3 => (jaI μ w3 i1).bind fun x4 => (if x4 = 0 then jR d 263 63 [.ref a, .int i1, .int i2, .int i3] [.int ((Int32.toInt16 i3).toInt32), .int i2, w2] μ else jR d 263 63 [.ref a, .int i1, .int i2, .int i3] [.int i3, .int i2, w2] μ)) :=
  (l_cmp0 (show gPG 263 35 = some (.ifCond .ne 6) by decide +kernel) (t := 41) (by decide +kernel)).trans <| jm_ne.trans <| ite_cg (
  (l_bipush (show gPG 263 38 = some (.bipush (-12)) by decide +kernel) (c := (-12)) (by decide +kernel)).trans <|
  l_iret1 (show gPG 263 40 = some (.ireturn) by decide +kernel) (by decide +kernel)) (
  (l_aload_n (show gPG 263 41 = some (.aload_n 0) by decide +kernel) rfl jr_ref).trans <|
  (l_gR (show gPG 263 42 = some (.getfield 119) by decide +kernel) (kd := 13) (sl := 54) (tc := 1) (fin := 1) (z := 0) (by decide +kernel) (by decide +kernel) (by decide +kernel)).trans <| bd_cg fun w1 hw1 =>
  (l_iload_n (show gPG 263 45 = some (.iload_n 1) by decide +kernel) rfl).trans <|
  (l_aald (show gPG 263 46 = some (.aaload) by decide +kernel) ).trans <| bd_cg fun w2 hw2 =>
  (l_iload_n (show gPG 263 47 = some (.iload_n 2) by decide +kernel) rfl).trans <|
  (l_aload_n (show gPG 263 48 = some (.aload_n 0) by decide +kernel) rfl jr_ref).trans <|
  (l_gR (show gPG 263 49 = some (.getfield 113) by decide +kernel) (kd := 13) (sl := 52) (tc := 1) (fin := 1) (z := 0) (by decide +kernel) (by decide +kernel) (by decide +kernel)).trans <| bd_cg fun w3 hw3 =>
  (l_iload_n (show gPG 263 52 = some (.iload_n 1) by decide +kernel) rfl).trans <|
  (l_iald (show gPG 263 53 = some (.iaload) by decide +kernel) ).trans <| bd_cg fun x4 hx4 =>
  (l_cmp0 (show gPG 263 54 = some (.ifCond .ne 8) by decide +kernel) (t := 62) (by decide +kernel)).trans <| jm_ne.trans <| ite_cg (
  (l_iload_n (show gPG 263 57 = some (.iload_n 3) by decide +kernel) rfl).trans <|
  (l_i2s (show gPG 263 58 = some (.i2s) by decide +kernel) ).trans <|
  l_goto (show gPG 263 59 = some (.goto 4) by decide +kernel) (t := 63) (by decide +kernel)) (
  l_iload_n (show gPG 263 62 = some (.iload_n 3) by decide +kernel) rfl))
theorem b263_63 (d : Nat) (μ : jM) (u0 : Value) (u1 : Value) (u2 : Value) (u3 : Value) (s0 : Value) (s1 : Int32) (s2 : Int32) (hs0 : jisref s0 = true) : jR d 263 63 [u0, u1, u2, u3] [.int s2, .int s1, s0] μ = (jsI μ s0 s1 s2).bind fun m1 => some (some (.int 1), m1) :=
  (l_iast (show gPG 263 63 = some (.iastore) by decide +kernel) ).trans <| bd_cg fun m1 hm1 =>
  (l_iconst (show gPG 263 64 = some (.iconst 1) by decide +kernel) (c := 1) (by decide +kernel)).trans <|
  l_iret1 (show gPG 263 65 = some (.ireturn) by decide +kernel) (by decide +kernel)
-- Ref.copy
theorem b264_0 (d : Nat) (μ : jM) (a : Nat) (i1 : Int32) (i2 : Int32) (i3 : Int32) (i4 : Int32) (i5 : Int32) : jR (d + 1) 264 0 [.ref a, .int i1, .int i2, .int i3, .int i4, .int i5] [] μ = (jC d 256 [.int i1] μ).bind fun p1 => jR (d + 1) 264 4 [.ref a, .int i1, .int i2, .int i3, .int i4, .int i5] (p1.1.toList ++ []) p1.2 :=
  (l_iload_n (show gPG 264 0 = some (.iload_n 1) by decide +kernel) rfl).trans <|
  l_callS (u := 2) (as := [.int i1]) (show gPG 264 1 = some (jinvI 2 493) by decide +kernel) (by decide) (cc := 256) (na := 1) (q4 := 0) (z := 12) (rest := []) (by decide +kernel) (by decide +kernel)  rfl (show (1 : Nat) ≤ 1 by decide) rfl cs0 (by decide +kernel) (cai ca0) (fun e => absurd e (by decide))
theorem b264_4 (d : Nat) (μ : jM) (a : Nat) (i1 : Int32) (i2 : Int32) (i3 : Int32) (i4 : Int32) (i5 : Int32) (s0 : Int32) : jR (d + 1) 264 4 [.ref a, .int i1, .int i2, .int i3, .int i4, .int i5] [.int s0] μ = (if s0 = 0 then jR (d + 1) 264 14 [.ref a, .int i1, .int i2, .int i3, .int i4, .int i5] [] μ else (jC d 256 [.int i3] μ).bind fun p1 => jR (d + 1) 264 11 [.ref a, .int i1, .int i2, .int i3, .int i4, .int i5] (p1.1.toList ++ []) p1.2) :=
  (l_cmp0 (show gPG 264 4 = some (.ifCond .eq 10) by decide +kernel) (t := 14) (by decide +kernel)).trans <| jm_eq.trans <| ite_cg (
  rfl) (
  (l_iload_n (show gPG 264 7 = some (.iload_n 3) by decide +kernel) rfl).trans <|
  l_callS (u := 2) (as := [.int i3]) (show gPG 264 8 = some (jinvI 2 493) by decide +kernel) (by decide) (cc := 256) (na := 1) (q4 := 0) (z := 12) (rest := []) (by decide +kernel) (by decide +kernel)  rfl (show (1 : Nat) ≤ 1 by decide) rfl cs0 (by decide +kernel) (cai ca0) (fun e => absurd e (by decide)))
theorem b264_11 (d : Nat) (μ : jM) (a : Nat) (i1 : Int32) (i2 : Int32) (i3 : Int32) (i4 : Int32) (i5 : Int32) (s0 : Int32) : jR (d + 1) 264 11 [.ref a, .int i1, .int i2, .int i3, .int i4, .int i5] [.int s0] μ = (if s0 = 0 then jR (d + 1) 264 14 [.ref a, .int i1, .int i2, .int i3, .int i4, .int i5] [] μ else (jgR μ 13 52 (.ref a)).bind fun w1 => (jaI μ w1 i1).bind fun x2 => (if x2 < 0 then jR (d + 1) 264 35 [.ref a, .int i1, .int i2, .int i3, .int i4, .int i5] [] μ else (jgR μ 13 52 (.ref a)).bind fun w3 => (jaI μ w3 i3).bind fun x4 => (if x4 < 0 then jR (d + 1) 264 35 [.ref a, .int i1, .int i2, .int i3, .int i4, .int i5] [] μ else (jgR μ 13 52 (.ref a)).bind fun w5 => (jaI μ w5 i1).bind fun x6 => (jgR μ 13 52 (.ref a)).bind fun w7 => (jaI μ w7 i3).bind fun x8 => (if x6 = x8 then (if i5 < 0 then jR (d + 1) 264 97 [.ref a, .int i1, .int i2, .int i3, .int i4, .int i5] [] μ else (if i2 < 0 then jR (d + 1) 264 97 [.ref a, .int i1, .int i2, .int i3, .int i4, .int i5] [] μ else (if i4 < 0 then jR (d + 1) 264 97 [.ref a, .int i1, .int i2, .int i3, .int i4, .int i5] [] μ else (jgR μ 13 53 (.ref a)).bind fun w9 => (jaI μ w9 i1).bind fun x10 => (if (x10 - i5) < i2 then jR (d + 1) 264 97 [.ref a, .int i1, .int i2, .int i3, .int i4, .int i5] [] μ else (jgR μ 13 53 (.ref a)).bind fun w11 => (jaI μ w11 i3).bind fun x12 => (if (x12 - i5) < i4 then jR (d + 1) 264 97 [.ref a, .int i1, .int i2, .int i3, .int i4, .int i5] [] μ else (jgR μ 13 54 (.ref a)).bind fun w13 => (jaR μ w13 i1).bind fun w14 => (jgR μ 13 55 (.ref a)).bind fun w15 => (jcp μ w14 i2 w15 0 i5).bind fun m16 => (jgR m16 13 55 (.ref a)).bind fun w17 => (jgR m16 13 54 (.ref a)).bind fun w18 => (jaR m16 w18 i3).bind fun w19 => (jcp m16 w17 0 w19 i4 i5).bind fun m20 => some (some (.int i5), m20)))))) else some (some (.int (-13)), μ))))) :=
  (l_cmp0 (show gPG 264 11 = some (.ifCond .ne 6) by decide +kernel) (t := 17) (by decide +kernel)).trans <| jm_ne.trans <| ite_cg (
  rfl) (
  (l_aload_n (show gPG 264 17 = some (.aload_n 0) by decide +kernel) rfl jr_ref).trans <|
  (l_gR (show gPG 264 18 = some (.getfield 113) by decide +kernel) (kd := 13) (sl := 52) (tc := 1) (fin := 1) (z := 0) (by decide +kernel) (by decide +kernel) (by decide +kernel)).trans <| bd_cg fun w1 hw1 =>
  (l_iload_n (show gPG 264 21 = some (.iload_n 1) by decide +kernel) rfl).trans <|
  (l_iald (show gPG 264 22 = some (.iaload) by decide +kernel) ).trans <| bd_cg fun x2 hx2 =>
  (l_cmp0 (show gPG 264 23 = some (.ifCond .lt 12) by decide +kernel) (t := 35) (by decide +kernel)).trans <| jm_lt.trans <| ite_cg (
  rfl) (
  (l_aload_n (show gPG 264 26 = some (.aload_n 0) by decide +kernel) rfl jr_ref).trans <|
  (l_gR (show gPG 264 27 = some (.getfield 113) by decide +kernel) (kd := 13) (sl := 52) (tc := 1) (fin := 1) (z := 0) (by decide +kernel) (by decide +kernel) (by decide +kernel)).trans <| bd_cg fun w3 hw3 =>
  (l_iload_n (show gPG 264 30 = some (.iload_n 3) by decide +kernel) rfl).trans <|
  (l_iald (show gPG 264 31 = some (.iaload) by decide +kernel) ).trans <| bd_cg fun x4 hx4 =>
  (l_cmp0 (show gPG 264 32 = some (.ifCond .ge 6) by decide +kernel) (t := 38) (by decide +kernel)).trans <| jm_ge.trans <| ite_cg (
  rfl) (
  (l_aload_n (show gPG 264 38 = some (.aload_n 0) by decide +kernel) rfl jr_ref).trans <|
  (l_gR (show gPG 264 39 = some (.getfield 113) by decide +kernel) (kd := 13) (sl := 52) (tc := 1) (fin := 1) (z := 0) (by decide +kernel) (by decide +kernel) (by decide +kernel)).trans <| bd_cg fun w5 hw5 =>
  (l_iload_n (show gPG 264 42 = some (.iload_n 1) by decide +kernel) rfl).trans <|
  (l_iald (show gPG 264 43 = some (.iaload) by decide +kernel) ).trans <| bd_cg fun x6 hx6 =>
  (l_aload_n (show gPG 264 44 = some (.aload_n 0) by decide +kernel) rfl jr_ref).trans <|
  (l_gR (show gPG 264 45 = some (.getfield 113) by decide +kernel) (kd := 13) (sl := 52) (tc := 1) (fin := 1) (z := 0) (by decide +kernel) (by decide +kernel) (by decide +kernel)).trans <| bd_cg fun w7 hw7 =>
  (l_iload_n (show gPG 264 48 = some (.iload_n 3) by decide +kernel) rfl).trans <|
  (l_iald (show gPG 264 49 = some (.iaload) by decide +kernel) ).trans <| bd_cg fun x8 hx8 =>
  (l_cmp (show gPG 264 50 = some (.if_icmp .eq 6) by decide +kernel) (t := 56) (by decide +kernel)).trans <| jm_eq.trans <| ite_cg (
  (l_iload (show gPG 264 56 = some (.iload 5) by decide +kernel) rfl).trans <|
  (l_cmp0 (show gPG 264 58 = some (.ifCond .lt 39) by decide +kernel) (t := 97) (by decide +kernel)).trans <| jm_lt.trans <| ite_cg (
  rfl) (
  (l_iload_n (show gPG 264 61 = some (.iload_n 2) by decide +kernel) rfl).trans <|
  (l_cmp0 (show gPG 264 62 = some (.ifCond .lt 35) by decide +kernel) (t := 97) (by decide +kernel)).trans <| jm_lt.trans <| ite_cg (
  rfl) (
  (l_iload (show gPG 264 65 = some (.iload 4) by decide +kernel) rfl).trans <|
  (l_cmp0 (show gPG 264 67 = some (.ifCond .lt 30) by decide +kernel) (t := 97) (by decide +kernel)).trans <| jm_lt.trans <| ite_cg (
  rfl) (
  (l_iload_n (show gPG 264 70 = some (.iload_n 2) by decide +kernel) rfl).trans <|
  (l_aload_n (show gPG 264 71 = some (.aload_n 0) by decide +kernel) rfl jr_ref).trans <|
  (l_gR (show gPG 264 72 = some (.getfield 116) by decide +kernel) (kd := 13) (sl := 53) (tc := 1) (fin := 1) (z := 0) (by decide +kernel) (by decide +kernel) (by decide +kernel)).trans <| bd_cg fun w9 hw9 =>
  (l_iload_n (show gPG 264 75 = some (.iload_n 1) by decide +kernel) rfl).trans <|
  (l_iald (show gPG 264 76 = some (.iaload) by decide +kernel) ).trans <| bd_cg fun x10 hx10 =>
  (l_iload (show gPG 264 77 = some (.iload 5) by decide +kernel) rfl).trans <|
  (l_isub (show gPG 264 79 = some (.isub) by decide +kernel) ).trans <|
  (l_cmp (show gPG 264 80 = some (.if_icmp .gt 17) by decide +kernel) (t := 97) (by decide +kernel)).trans <| jm_gt.trans <| ite_cg (
  rfl) (
  (l_iload (show gPG 264 83 = some (.iload 4) by decide +kernel) rfl).trans <|
  (l_aload_n (show gPG 264 85 = some (.aload_n 0) by decide +kernel) rfl jr_ref).trans <|
  (l_gR (show gPG 264 86 = some (.getfield 116) by decide +kernel) (kd := 13) (sl := 53) (tc := 1) (fin := 1) (z := 0) (by decide +kernel) (by decide +kernel) (by decide +kernel)).trans <| bd_cg fun w11 hw11 =>
  (l_iload_n (show gPG 264 89 = some (.iload_n 3) by decide +kernel) rfl).trans <|
  (l_iald (show gPG 264 90 = some (.iaload) by decide +kernel) ).trans <| bd_cg fun x12 hx12 =>
  (l_iload (show gPG 264 91 = some (.iload 5) by decide +kernel) rfl).trans <|
  (l_isub (show gPG 264 93 = some (.isub) by decide +kernel) ).trans <|
  (l_cmp (show gPG 264 94 = some (.if_icmp .le 6) by decide +kernel) (t := 100) (by decide +kernel)).trans <| jm_le.trans <| ite_cg (
  rfl) (
  (l_aload_n (show gPG 264 100 = some (.aload_n 0) by decide +kernel) rfl jr_ref).trans <|
  (l_gR (show gPG 264 101 = some (.getfield 119) by decide +kernel) (kd := 13) (sl := 54) (tc := 1) (fin := 1) (z := 0) (by decide +kernel) (by decide +kernel) (by decide +kernel)).trans <| bd_cg fun w13 hw13 =>
  (l_iload_n (show gPG 264 104 = some (.iload_n 1) by decide +kernel) rfl).trans <|
  (l_aald (show gPG 264 105 = some (.aaload) by decide +kernel) ).trans <| bd_cg fun w14 hw14 =>
  (l_iload_n (show gPG 264 106 = some (.iload_n 2) by decide +kernel) rfl).trans <|
  (l_aload_n (show gPG 264 107 = some (.aload_n 0) by decide +kernel) rfl jr_ref).trans <|
  (l_gR (show gPG 264 108 = some (.getfield 122) by decide +kernel) (kd := 13) (sl := 55) (tc := 1) (fin := 1) (z := 0) (by decide +kernel) (by decide +kernel) (by decide +kernel)).trans <| bd_cg fun w15 hw15 =>
  (l_iconst (show gPG 264 111 = some (.iconst 0) by decide +kernel) (c := 0) (by decide +kernel)).trans <|
  (l_iload (show gPG 264 112 = some (.iload 5) by decide +kernel) rfl).trans <|
  (l_acp (show gPG 264 114 = some (.invokestatic 143) by decide +kernel) (q3 := 99) (q4 := 0) (z := 19) (by decide +kernel) (by decide +kernel) (jr_aR hw14) (jr_gR hw15) cs0 (by decide +kernel)).trans <| bd_cg fun m16 hm16 =>
  (l_aload_n (show gPG 264 117 = some (.aload_n 0) by decide +kernel) rfl jr_ref).trans <|
  (l_gR (show gPG 264 118 = some (.getfield 122) by decide +kernel) (kd := 13) (sl := 55) (tc := 1) (fin := 1) (z := 0) (by decide +kernel) (by decide +kernel) (by decide +kernel)).trans <| bd_cg fun w17 hw17 =>
  (l_iconst (show gPG 264 121 = some (.iconst 0) by decide +kernel) (c := 0) (by decide +kernel)).trans <|
  (l_aload_n (show gPG 264 122 = some (.aload_n 0) by decide +kernel) rfl jr_ref).trans <|
  (l_gR (show gPG 264 123 = some (.getfield 119) by decide +kernel) (kd := 13) (sl := 54) (tc := 1) (fin := 1) (z := 0) (by decide +kernel) (by decide +kernel) (by decide +kernel)).trans <| bd_cg fun w18 hw18 =>
  (l_iload_n (show gPG 264 126 = some (.iload_n 3) by decide +kernel) rfl).trans <|
  (l_aald (show gPG 264 127 = some (.aaload) by decide +kernel) ).trans <| bd_cg fun w19 hw19 =>
  (l_iload (show gPG 264 128 = some (.iload 4) by decide +kernel) rfl).trans <|
  (l_iload (show gPG 264 130 = some (.iload 5) by decide +kernel) rfl).trans <|
  (l_acp (show gPG 264 132 = some (.invokestatic 143) by decide +kernel) (q3 := 99) (q4 := 0) (z := 19) (by decide +kernel) (by decide +kernel) (jr_gR hw17) (jr_aR hw19) cs0 (by decide +kernel)).trans <| bd_cg fun m20 hm20 =>
  (l_iload (show gPG 264 135 = some (.iload 5) by decide +kernel) rfl).trans <|
  l_iret1 (show gPG 264 137 = some (.ireturn) by decide +kernel) (by decide +kernel))))))) (
  (l_bipush (show gPG 264 53 = some (.bipush (-13)) by decide +kernel) (c := (-13)) (by decide +kernel)).trans <|
  l_iret1 (show gPG 264 55 = some (.ireturn) by decide +kernel) (by decide +kernel)))))
theorem b264_14 (d : Nat) (μ : jM) (u0 : Value) (u1 : Value) (u2 : Value) (u3 : Value) (u4 : Value) (u5 : Value) : jR d 264 14 [u0, u1, u2, u3, u4, u5] [] μ = some (some (.int (-2)), μ) :=
  (l_bipush (show gPG 264 14 = some (.bipush (-2)) by decide +kernel) (c := (-2)) (by decide +kernel)).trans <|
  l_iret1 (show gPG 264 16 = some (.ireturn) by decide +kernel) (by decide +kernel)
theorem b264_35 (d : Nat) (μ : jM) (u0 : Value) (u1 : Value) (u2 : Value) (u3 : Value) (u4 : Value) (u5 : Value) : jR d 264 35 [u0, u1, u2, u3, u4, u5] [] μ = some (some (.int (-11)), μ) :=
  (l_bipush (show gPG 264 35 = some (.bipush (-11)) by decide +kernel) (c := (-11)) (by decide +kernel)).trans <|
  l_iret1 (show gPG 264 37 = some (.ireturn) by decide +kernel) (by decide +kernel)
theorem b264_97 (d : Nat) (μ : jM) (u0 : Value) (u1 : Value) (u2 : Value) (u3 : Value) (u4 : Value) (u5 : Value) : jR d 264 97 [u0, u1, u2, u3, u4, u5] [] μ = some (some (.int (-12)), μ) :=
  (l_bipush (show gPG 264 97 = some (.bipush (-12)) by decide +kernel) (c := (-12)) (by decide +kernel)).trans <|
  l_iret1 (show gPG 264 99 = some (.ireturn) by decide +kernel) (by decide +kernel)
