/-! THE BLOCKS of the JDK's methods, laid by program -/
-- AbstractStringBuilder.init
theorem b265_0 (d : Nat) (μ : jM) (a : Nat) (i1 : Int32) (hx : jX μ) : jR (d + 1) 265 0 [.ref a, .int i1] [] μ = (if 1 = 0 then jR (d + 1) 265 27 [.ref a, .int i1] [.int i1, .ref a] μ else (jnA μ 22 i1).bind fun p1 => (jpR p1.2 1 0 (.ref a) p1.1).bind fun m2 => (jpI m2 1 1 3 (.ref a) 0).bind fun m3 => jR (d + 1) 265 38 [.ref a, .int i1] [] m3) :=
  (l_aload_n (show gPG 265 0 = some (.aload_n 0) by decide +kernel) rfl jr_ref).trans <|
  (l_obj (u := 3) (show gPG 265 1 = some (jinvI 3 3) by decide +kernel) (by decide) (q2 := 99) (q3 := 0) (z := 18) (by decide +kernel) (by decide +kernel) cs0 (by decide +kernel)).trans <|
  (l_getsI (show gPG 265 4 = some (.getstatic 18) by decide +kernel) (j := 0) (c := 1) (by decide +kernel) (by decide +kernel) hx.1).trans <|
  (l_cmp0 (show gPG 265 7 = some (.ifCond .eq 18) by decide +kernel) (t := 25) (by decide +kernel)).trans <| jm_eq.trans <| ite_cg (
  (l_aload_n (show gPG 265 25 = some (.aload_n 0) by decide +kernel) rfl jr_ref).trans <|
  l_iload_n (show gPG 265 26 = some (.iload_n 1) by decide +kernel) rfl) (
  (l_aload_n (show gPG 265 10 = some (.aload_n 0) by decide +kernel) rfl jr_ref).trans <|
  (l_iload_n (show gPG 265 11 = some (.iload_n 1) by decide +kernel) rfl).trans <|
  (l_newa (show gPG 265 12 = some (.newarray .byte) by decide +kernel) (kd := 22) rfl).trans <| bd_cg fun p1 hp1 =>
  (l_pR (show gPG 265 14 = some (.putfield 15) by decide +kernel) (kd := 1) (sl := 0) (tc := 1) (fin := 0) (z := 0) (by decide +kernel) (by decide +kernel) (by decide +kernel) (jr_nA hp1)).trans <| bd_cg fun m2 hm2 =>
  (l_aload_n (show gPG 265 17 = some (.aload_n 0) by decide +kernel) rfl jr_ref).trans <|
  (l_iconst (show gPG 265 18 = some (.iconst 0) by decide +kernel) (c := 0) (by decide +kernel)).trans <|
  (l_pI (show gPG 265 19 = some (.putfield 22) by decide +kernel) (kd := 1) (sl := 1) (tc := 3) (fin := 0) (z := 0) (by decide +kernel) (by decide +kernel) (by decide +kernel)).trans <| bd_cg fun m3 hm3 =>
  l_goto (show gPG 265 22 = some (.goto 16) by decide +kernel) (t := 38) (by decide +kernel))
theorem b265_38 (d : Nat) (μ : jM) (u0 : Value) (u1 : Value) : jR d 265 38 [u0, u1] [] μ = some (none, μ) :=
  l_ret (show gPG 265 38 = some (.return_) by decide +kernel) (by decide +kernel)
-- AbstractStringBuilder.append/C
theorem b266_0 (d : Nat) (μ : jM) (a : Nat) (i1 : Int32) : jR (d + 1) 266 0 [.ref a, .int i1] [] μ = (jgI μ 1 3 (.ref a)).bind fun x1 => (if jrecv μ 1 (.ref a) = true then (jC d 267 [.ref a, .int (x1 + 1)] μ).bind fun p2 => jR (d + 1) 266 10 [.ref a, .int i1] (p2.1.toList ++ []) p2.2 else none) :=
  (l_aload_n (show gPG 266 0 = some (.aload_n 0) by decide +kernel) rfl jr_ref).trans <|
  (l_aload_n (show gPG 266 1 = some (.aload_n 0) by decide +kernel) rfl jr_ref).trans <|
  (l_gI (show gPG 266 2 = some (.getfield 79) by decide +kernel) (kd := 1) (sl := 3) (tc := 0) (fin := 0) (z := 0) (by decide +kernel) (by decide +kernel) (by decide +kernel)).trans <| bd_cg fun x1 hx1 =>
  (l_iconst (show gPG 266 5 = some (.iconst 1) by decide +kernel) (c := 1) (by decide +kernel)).trans <|
  (l_iadd (show gPG 266 6 = some (.iadd) by decide +kernel) ).trans <|
  l_callV (u := 1) (v := .ref a) (as := [.int (x1 + 1)]) (show gPG 266 7 = some (jinvI 1 100) by decide +kernel) (by decide) (cc := 267) (na := 2) (kd := 1) (q4 := 0) (z := 21) (rest := []) (by decide +kernel) (by decide +kernel)  rfl (show (2 : Nat) ≤ 2 by decide) rfl cs0 (by decide +kernel) (cai (cav jr_ref ca0))
theorem b266_10 (d : Nat) (μ : jM) (a : Nat) (i1 : Int32) : jR (d + 1) 266 10 [.ref a, .int i1] [] μ = (if jrecv μ 1 (.ref a) = true then (jC d 269 [.ref a] μ).bind fun p1 => jR (d + 1) 266 14 [.ref a, .int i1] (p1.1.toList ++ []) p1.2 else none) :=
  (l_aload_n (show gPG 266 10 = some (.aload_n 0) by decide +kernel) rfl jr_ref).trans <|
  l_callV (u := 1) (v := .ref a) (as := []) (show gPG 266 11 = some (jinvI 1 83) by decide +kernel) (by decide) (cc := 269) (na := 1) (kd := 1) (q4 := 0) (z := 17) (rest := []) (by decide +kernel) (by decide +kernel)  rfl (show (1 : Nat) ≤ 1 by decide) rfl cs0 (by decide +kernel) (cav jr_ref ca0)
theorem b266_14 (d : Nat) (μ : jM) (a : Nat) (i1 : Int32) (s0 : Int32) : jR (d + 1) 266 14 [.ref a, .int i1] [.int s0] μ = (if s0 = 0 then jR (d + 1) 266 45 [.ref a, .int i1] [] μ else (jC d 299 [.int i1] μ).bind fun p1 => jR (d + 1) 266 21 [.ref a, .int i1] (p1.1.toList ++ []) p1.2) :=
  (l_cmp0 (show gPG 266 14 = some (.ifCond .eq 31) by decide +kernel) (t := 45) (by decide +kernel)).trans <| jm_eq.trans <| ite_cg (
  rfl) (
  (l_iload_n (show gPG 266 17 = some (.iload_n 1) by decide +kernel) rfl).trans <|
  l_callS (u := 2) (as := [.int i1]) (show gPG 266 18 = some (jinvI 2 191) by decide +kernel) (by decide) (cc := 299) (na := 1) (q4 := 0) (z := 12) (rest := []) (by decide +kernel) (by decide +kernel)  rfl (show (1 : Nat) ≤ 1 by decide) rfl cs0 (by decide +kernel) (cai ca0) (fun e => absurd e (by decide)))
theorem b266_21 (d : Nat) (μ : jM) (a : Nat) (i1 : Int32) (s0 : Int32) : jR d 266 21 [.ref a, .int i1] [.int s0] μ = (if s0 = 0 then jR d 266 45 [.ref a, .int i1] [] μ else (jgR μ 1 0 (.ref a)).bind fun w1 => (jgI μ 1 3 (.ref a)).bind fun x2 => (jpI μ 1 3 0 (.ref a) (x2 + 1)).bind fun m3 => (jsB m3 w1 x2 ((Int32.toInt8 i1).toInt32)).bind fun m4 => jR d 266 75 [.ref a, .int i1] [] m4) :=
  (l_cmp0 (show gPG 266 21 = some (.ifCond .eq 24) by decide +kernel) (t := 45) (by decide +kernel)).trans <| jm_eq.trans <| ite_cg (
  rfl) (
  (l_aload_n (show gPG 266 24 = some (.aload_n 0) by decide +kernel) rfl jr_ref).trans <|
  (l_gR (show gPG 266 25 = some (.getfield 15) by decide +kernel) (kd := 1) (sl := 0) (tc := 1) (fin := 0) (z := 0) (by decide +kernel) (by decide +kernel) (by decide +kernel)).trans <| bd_cg fun w1 hw1 =>
  (l_aload_n (show gPG 266 28 = some (.aload_n 0) by decide +kernel) rfl jr_ref).trans <|
  (l_dup (show gPG 266 29 = some (.dup) by decide +kernel) (jr_cat1 jr_ref)).trans <|
  (l_gI (show gPG 266 30 = some (.getfield 79) by decide +kernel) (kd := 1) (sl := 3) (tc := 0) (fin := 0) (z := 0) (by decide +kernel) (by decide +kernel) (by decide +kernel)).trans <| bd_cg fun x2 hx2 =>
  (l_dupx1 (show gPG 266 33 = some (.dup_x1) by decide +kernel) rfl (jr_cat1 jr_ref)).trans <|
  (l_iconst (show gPG 266 34 = some (.iconst 1) by decide +kernel) (c := 1) (by decide +kernel)).trans <|
  (l_iadd (show gPG 266 35 = some (.iadd) by decide +kernel) ).trans <|
  (l_pI (show gPG 266 36 = some (.putfield 79) by decide +kernel) (kd := 1) (sl := 3) (tc := 0) (fin := 0) (z := 0) (by decide +kernel) (by decide +kernel) (by decide +kernel)).trans <| bd_cg fun m3 hm3 =>
  (l_iload_n (show gPG 266 39 = some (.iload_n 1) by decide +kernel) rfl).trans <|
  (l_i2b (show gPG 266 40 = some (.i2b) by decide +kernel) ).trans <|
  (l_bast (show gPG 266 41 = some (.bastore) by decide +kernel) ).trans <| bd_cg fun m4 hm4 =>
  l_goto (show gPG 266 42 = some (.goto 33) by decide +kernel) (t := 75) (by decide +kernel))
theorem b266_45 (d : Nat) (μ : jM) (a : Nat) (i1 : Int32) : jR (d + 1) 266 45 [.ref a, .int i1] [] μ = (if jrecv μ 1 (.ref a) = true then (jC d 269 [.ref a] μ).bind fun p1 => jR (d + 1) 266 49 [.ref a, .int i1] (p1.1.toList ++ []) p1.2 else none) :=
  (l_aload_n (show gPG 266 45 = some (.aload_n 0) by decide +kernel) rfl jr_ref).trans <|
  l_callV (u := 1) (v := .ref a) (as := []) (show gPG 266 46 = some (jinvI 1 83) by decide +kernel) (by decide) (cc := 269) (na := 1) (kd := 1) (q4 := 0) (z := 17) (rest := []) (by decide +kernel) (by decide +kernel)  rfl (show (1 : Nat) ≤ 1 by decide) rfl cs0 (by decide +kernel) (cav jr_ref ca0)
theorem b266_49 (d : Nat) (μ : jM) (a : Nat) (i1 : Int32) (s0 : Int32) : jR d 266 49 [.ref a, .int i1] [.int s0] μ = (if s0 = 0 then jR d 266 56 [.ref a, .int i1] [] μ else jR d 266 53 [.ref a, .int i1] [.ref a] μ) :=
  (l_cmp0 (show gPG 266 49 = some (.ifCond .eq 7) by decide +kernel) (t := 56) (by decide +kernel)).trans <| jm_eq.trans <| ite_cg (
  rfl) (
  l_aload_n (show gPG 266 52 = some (.aload_n 0) by decide +kernel) rfl jr_ref)
theorem b266_56 (d : Nat) (μ : jM) (a : Nat) (i1 : Int32) : jR d 266 56 [.ref a, .int i1] [] μ = (jgR μ 1 0 (.ref a)).bind fun w1 => (jgI μ 1 3 (.ref a)).bind fun x2 => (jpI μ 1 3 0 (.ref a) (x2 + 1)).bind fun m3 => jR d 266 72 [.ref a, .int i1] [.int i1, .int x2, w1] m3 :=
  (l_aload_n (show gPG 266 56 = some (.aload_n 0) by decide +kernel) rfl jr_ref).trans <|
  (l_gR (show gPG 266 57 = some (.getfield 15) by decide +kernel) (kd := 1) (sl := 0) (tc := 1) (fin := 0) (z := 0) (by decide +kernel) (by decide +kernel) (by decide +kernel)).trans <| bd_cg fun w1 hw1 =>
  (l_aload_n (show gPG 266 60 = some (.aload_n 0) by decide +kernel) rfl jr_ref).trans <|
  (l_dup (show gPG 266 61 = some (.dup) by decide +kernel) (jr_cat1 jr_ref)).trans <|
  (l_gI (show gPG 266 62 = some (.getfield 79) by decide +kernel) (kd := 1) (sl := 3) (tc := 0) (fin := 0) (z := 0) (by decide +kernel) (by decide +kernel) (by decide +kernel)).trans <| bd_cg fun x2 hx2 =>
  (l_dupx1 (show gPG 266 65 = some (.dup_x1) by decide +kernel) rfl (jr_cat1 jr_ref)).trans <|
  (l_iconst (show gPG 266 66 = some (.iconst 1) by decide +kernel) (c := 1) (by decide +kernel)).trans <|
  (l_iadd (show gPG 266 67 = some (.iadd) by decide +kernel) ).trans <|
  (l_pI (show gPG 266 68 = some (.putfield 79) by decide +kernel) (kd := 1) (sl := 3) (tc := 0) (fin := 0) (z := 0) (by decide +kernel) (by decide +kernel) (by decide +kernel)).trans <| bd_cg fun m3 hm3 =>
  l_iload_n (show gPG 266 71 = some (.iload_n 1) by decide +kernel) rfl
theorem b266_75 (d : Nat) (μ : jM) (a : Nat) (u1 : Value) : jR d 266 75 [.ref a, u1] [] μ = some (some (.ref a), μ) :=
  (l_aload_n (show gPG 266 75 = some (.aload_n 0) by decide +kernel) rfl jr_ref).trans <|
  l_aret (show gPG 266 76 = some (.areturn) by decide +kernel) (by decide +kernel) jr_ref
-- AbstractStringBuilder.ensureCapacityInternal
theorem b267_0 (d : Nat) (μ : jM) (a : Nat) (i1 : Int32) : jR (d + 1) 267 0 [.ref a, .int i1, .retAddr 0] [] μ = (jgR μ 1 0 (.ref a)).bind fun w1 => (jal μ w1).bind fun x2 => (jgI μ 1 1 (.ref a)).bind fun x3 => (if 0 < (i1 - (x2 >>> (x3 &&& 31))) then (jgR μ 1 0 (.ref a)).bind fun w4 => (if jrecv μ 1 (.ref a) = true then (jC d 268 [.ref a, .int i1] μ).bind fun p5 => jR (d + 1) 267 27 [.ref a, .int i1, .int (x2 >>> (x3 &&& 31))] (p5.1.toList ++ [w4, .ref a]) p5.2 else none) else jR (d + 1) 267 38 [.ref a, .int i1, .int (x2 >>> (x3 &&& 31))] [] μ) :=
  (l_aload_n (show gPG 267 0 = some (.aload_n 0) by decide +kernel) rfl jr_ref).trans <|
  (l_gR (show gPG 267 1 = some (.getfield 15) by decide +kernel) (kd := 1) (sl := 0) (tc := 1) (fin := 0) (z := 0) (by decide +kernel) (by decide +kernel) (by decide +kernel)).trans <| bd_cg fun w1 hw1 =>
  (l_alen (show gPG 267 4 = some (.arraylength) by decide +kernel) ).trans <| bd_cg fun x2 hx2 =>
  (l_aload_n (show gPG 267 5 = some (.aload_n 0) by decide +kernel) rfl jr_ref).trans <|
  (l_gI (show gPG 267 6 = some (.getfield 22) by decide +kernel) (kd := 1) (sl := 1) (tc := 3) (fin := 0) (z := 0) (by decide +kernel) (by decide +kernel) (by decide +kernel)).trans <| bd_cg fun x3 hx3 =>
  (l_ishr (show gPG 267 9 = some (.ishr) by decide +kernel) ).trans <|
  (l_istore_n (show gPG 267 10 = some (.istore_n 2) by decide +kernel) (ls := [.ref a, .int i1, .retAddr 0]) (show (2 : Nat) < 3 by decide) (show _ = ([.ref a, .int i1, .int (x2 >>> (x3 &&& 31))] : List Value) from rfl)).trans <|
  (l_iload_n (show gPG 267 11 = some (.iload_n 1) by decide +kernel) rfl).trans <|
  (l_iload_n (show gPG 267 12 = some (.iload_n 2) by decide +kernel) rfl).trans <|
  (l_isub (show gPG 267 13 = some (.isub) by decide +kernel) ).trans <|
  (l_cmp0 (show gPG 267 14 = some (.ifCond .le 24) by decide +kernel) (t := 38) (by decide +kernel)).trans <| jm_le.trans <| ite_cg (
  (l_aload_n (show gPG 267 17 = some (.aload_n 0) by decide +kernel) rfl jr_ref).trans <|
  (l_aload_n (show gPG 267 18 = some (.aload_n 0) by decide +kernel) rfl jr_ref).trans <|
  (l_gR (show gPG 267 19 = some (.getfield 15) by decide +kernel) (kd := 1) (sl := 0) (tc := 1) (fin := 0) (z := 0) (by decide +kernel) (by decide +kernel) (by decide +kernel)).trans <| bd_cg fun w4 hw4 =>
  (l_aload_n (show gPG 267 22 = some (.aload_n 0) by decide +kernel) rfl jr_ref).trans <|
  (l_iload_n (show gPG 267 23 = some (.iload_n 1) by decide +kernel) rfl).trans <|
  l_callV (u := 1) (v := .ref a) (as := [.int i1]) (show gPG 267 24 = some (jinvI 1 104) by decide +kernel) (by decide) (cc := 268) (na := 2) (kd := 1) (q4 := 0) (z := 21) (rest := [w4, .ref a]) (by decide +kernel) (by decide +kernel)  rfl (show (2 : Nat) ≤ 4 by decide) rfl (csv (jr_gR hw4) (csv jr_ref cs0)) (by decide +kernel) (cai (cav jr_ref ca0))) (
  rfl)
theorem b267_27 (d : Nat) (μ : jM) (a : Nat) (u1 : Value) (u2 : Value) (s0 : Value) (s1 : Value) (s2 : Int32) (hs0 : jisref s0 = true) (hs1 : jisref s1 = true) : jR (d + 1) 267 27 [.ref a, u1, u2] [.int s2, s1, s0] μ = (jgI μ 1 1 (.ref a)).bind fun x1 => (jC d 306 [s1, .int (s2 <<< (x1 &&& 31))] μ).bind fun p2 => jR (d + 1) 267 35 [.ref a, u1, u2] (p2.1.toList ++ [s0]) p2.2 :=
  (l_aload_n (show gPG 267 27 = some (.aload_n 0) by decide +kernel) rfl jr_ref).trans <|
  (l_gI (show gPG 267 28 = some (.getfield 22) by decide +kernel) (kd := 1) (sl := 1) (tc := 3) (fin := 0) (z := 0) (by decide +kernel) (by decide +kernel) (by decide +kernel)).trans <| bd_cg fun x1 hx1 =>
  (l_ishl (show gPG 267 31 = some (.ishl) by decide +kernel) ).trans <|
  l_callS (u := 2) (as := [s1, .int (s2 <<< (x1 &&& 31))]) (show gPG 267 32 = some (jinvI 2 108) by decide +kernel) (by decide) (cc := 306) (na := 2) (q4 := 0) (z := 12) (rest := [s0]) (by decide +kernel) (by decide +kernel)  rfl (show (2 : Nat) ≤ 3 by decide) rfl (csv hs0 cs0) (by decide +kernel) (cai (cav hs1 ca0)) (fun e => absurd e (by decide))
theorem b267_35 (d : Nat) (μ : jM) (u0 : Value) (u1 : Value) (u2 : Value) (s0 : Value) (s1 : Value) (hs0 : jisref s0 = true) (hs1 : jisref s1 = true) : jR d 267 35 [u0, u1, u2] [s1, s0] μ = (jpR μ 1 0 s0 s1).bind fun m1 => jR d 267 38 [u0, u1, u2] [] m1 :=
  (l_pR (show gPG 267 35 = some (.putfield 15) by decide +kernel) (kd := 1) (sl := 0) (tc := 1) (fin := 0) (z := 0) (by decide +kernel) (by decide +kernel) (by decide +kernel) hs1).trans <| bd_cg fun m1 hm1 =>
  rfl
theorem b267_38 (d : Nat) (μ : jM) (u0 : Value) (u1 : Value) (u2 : Value) : jR d 267 38 [u0, u1, u2] [] μ = some (none, μ) :=
  l_ret (show gPG 267 38 = some (.return_) by decide +kernel) (by decide +kernel)
-- AbstractStringBuilder.newCapacity
theorem b268_0 (d : Nat) (μ : jM) (a : Nat) (i1 : Int32) : jR (d + 1) 268 0 [.ref a, .int i1, .retAddr 0, .retAddr 0, .retAddr 0, .retAddr 0] [] μ = (jgR μ 1 0 (.ref a)).bind fun w1 => (jal μ w1).bind fun x2 => (jgI μ 1 1 (.ref a)).bind fun x3 => (jgI μ 1 1 (.ref a)).bind fun x4 => (jC d 310 [.int x2, .int ((i1 <<< (x3 &&& 31)) - x2), .int (x2 + (2 <<< (x4 &&& 31)))] μ).bind fun p5 => jR (d + 1) 268 32 [.ref a, .int i1, .int x2, .int (i1 <<< (x3 &&& 31)), .int ((i1 <<< (x3 &&& 31)) - x2), .retAddr 0] (p5.1.toList ++ []) p5.2 :=
  (l_aload_n (show gPG 268 0 = some (.aload_n 0) by decide +kernel) rfl jr_ref).trans <|
  (l_gR (show gPG 268 1 = some (.getfield 15) by decide +kernel) (kd := 1) (sl := 0) (tc := 1) (fin := 0) (z := 0) (by decide +kernel) (by decide +kernel) (by decide +kernel)).trans <| bd_cg fun w1 hw1 =>
  (l_alen (show gPG 268 4 = some (.arraylength) by decide +kernel) ).trans <| bd_cg fun x2 hx2 =>
  (l_istore_n (show gPG 268 5 = some (.istore_n 2) by decide +kernel) (ls := [.ref a, .int i1, .retAddr 0, .retAddr 0, .retAddr 0, .retAddr 0]) (show (2 : Nat) < 6 by decide) (show _ = ([.ref a, .int i1, .int x2, .retAddr 0, .retAddr 0, .retAddr 0] : List Value) from rfl)).trans <|
  (l_iload_n (show gPG 268 6 = some (.iload_n 1) by decide +kernel) rfl).trans <|
  (l_aload_n (show gPG 268 7 = some (.aload_n 0) by decide +kernel) rfl jr_ref).trans <|
  (l_gI (show gPG 268 8 = some (.getfield 22) by decide +kernel) (kd := 1) (sl := 1) (tc := 3) (fin := 0) (z := 0) (by decide +kernel) (by decide +kernel) (by decide +kernel)).trans <| bd_cg fun x3 hx3 =>
  (l_ishl (show gPG 268 11 = some (.ishl) by decide +kernel) ).trans <|
  (l_istore_n (show gPG 268 12 = some (.istore_n 3) by decide +kernel) (ls := [.ref a, .int i1, .int x2, .retAddr 0, .retAddr 0, .retAddr 0]) (show (3 : Nat) < 6 by decide) (show _ = ([.ref a, .int i1, .int x2, .int (i1 <<< (x3 &&& 31)), .retAddr 0, .retAddr 0] : List Value) from rfl)).trans <|
  (l_iload_n (show gPG 268 13 = some (.iload_n 3) by decide +kernel) rfl).trans <|
  (l_iload_n (show gPG 268 14 = some (.iload_n 2) by decide +kernel) rfl).trans <|
  (l_isub (show gPG 268 15 = some (.isub) by decide +kernel) ).trans <|
  (l_istore (show gPG 268 16 = some (.istore 4) by decide +kernel) (ls := [.ref a, .int i1, .int x2, .int (i1 <<< (x3 &&& 31)), .retAddr 0, .retAddr 0]) (show (4 : Nat) < 6 by decide) (show _ = ([.ref a, .int i1, .int x2, .int (i1 <<< (x3 &&& 31)), .int ((i1 <<< (x3 &&& 31)) - x2), .retAddr 0] : List Value) from rfl)).trans <|
  (l_iload_n (show gPG 268 18 = some (.iload_n 2) by decide +kernel) rfl).trans <|
  (l_iload (show gPG 268 19 = some (.iload 4) by decide +kernel) rfl).trans <|
  (l_iload_n (show gPG 268 21 = some (.iload_n 2) by decide +kernel) rfl).trans <|
  (l_iconst (show gPG 268 22 = some (.iconst 2) by decide +kernel) (c := 2) (by decide +kernel)).trans <|
  (l_aload_n (show gPG 268 23 = some (.aload_n 0) by decide +kernel) rfl jr_ref).trans <|
  (l_gI (show gPG 268 24 = some (.getfield 22) by decide +kernel) (kd := 1) (sl := 1) (tc := 3) (fin := 0) (z := 0) (by decide +kernel) (by decide +kernel) (by decide +kernel)).trans <| bd_cg fun x4 hx4 =>
  (l_ishl (show gPG 268 27 = some (.ishl) by decide +kernel) ).trans <|
  (l_iadd (show gPG 268 28 = some (.iadd) by decide +kernel) ).trans <|
  l_callS (u := 2) (as := [.int x2, .int ((i1 <<< (x3 &&& 31)) - x2), .int (x2 + (2 <<< (x4 &&& 31)))]) (show gPG 268 29 = some (jinvI 2 114) by decide +kernel) (by decide) (cc := 310) (na := 3) (q4 := 0) (z := 12) (rest := []) (by decide +kernel) (by decide +kernel)  rfl (show (3 : Nat) ≤ 3 by decide) rfl cs0 (by decide +kernel) (cai (cai (cai ca0))) (fun e => absurd e (by decide))
theorem b268_32 (d : Nat) (μ : jM) (a : Nat) (u1 : Value) (u2 : Value) (u3 : Value) (u4 : Value) (u5 : Value) (s0 : Int32) : jR d 268 32 [.ref a, u1, u2, u3, u4, u5] [.int s0] μ = (if s0 = 2147483647 then jR d 268 41 [.ref a, u1, u2, u3, u4, .int s0] [] μ else (jgI μ 1 1 (.ref a)).bind fun x1 => some (some (.int (s0 >>> (x1 &&& 31))), μ)) :=
  (l_istore (show gPG 268 32 = some (.istore 5) by decide +kernel) (ls := [.ref a, u1, u2, u3, u4, u5]) (show (5 : Nat) < 6 by decide) (show _ = ([.ref a, u1, u2, u3, u4, .int s0] : List Value) from rfl)).trans <|
  (l_iload (show gPG 268 34 = some (.iload 5) by decide +kernel) rfl).trans <|
  (l_ldc (show gPG 268 36 = some (.ldc 39) by decide +kernel) (c := 2147483647) (by decide +kernel)).trans <|
  (l_cmp (show gPG 268 38 = some (.if_icmp .ne 13) by decide +kernel) (t := 51) (by decide +kernel)).trans <| jm_ne.trans <| ite_cg (
  rfl) (
  (l_iload (show gPG 268 51 = some (.iload 5) by decide +kernel) rfl).trans <|
  (l_aload_n (show gPG 268 53 = some (.aload_n 0) by decide +kernel) rfl jr_ref).trans <|
  (l_gI (show gPG 268 54 = some (.getfield 22) by decide +kernel) (kd := 1) (sl := 1) (tc := 3) (fin := 0) (z := 0) (by decide +kernel) (by decide +kernel) (by decide +kernel)).trans <| bd_cg fun x1 hx1 =>
  (l_ishr (show gPG 268 57 = some (.ishr) by decide +kernel) ).trans <|
  l_iret1 (show gPG 268 58 = some (.ireturn) by decide +kernel) (by decide +kernel))
-- AbstractStringBuilder.isLatin1
theorem b269_0 (d : Nat) (μ : jM) (a : Nat) (hx : jX μ) : jR d 269 0 [.ref a] [] μ = (if 1 = 0 then jR d 269 17 [.ref a] [] μ else (jgI μ 1 1 (.ref a)).bind fun x1 => (if x1 = 0 then jR d 269 18 [.ref a] [.int 1] μ else jR d 269 17 [.ref a] [] μ)) :=
  (l_getsI (show gPG 269 0 = some (.getstatic 18) by decide +kernel) (j := 0) (c := 1) (by decide +kernel) (by decide +kernel) hx.1).trans <|
  (l_cmp0 (show gPG 269 3 = some (.ifCond .eq 14) by decide +kernel) (t := 17) (by decide +kernel)).trans <| jm_eq.trans <| ite_cg (
  rfl) (
  (l_aload_n (show gPG 269 6 = some (.aload_n 0) by decide +kernel) rfl jr_ref).trans <|
  (l_gI (show gPG 269 7 = some (.getfield 22) by decide +kernel) (kd := 1) (sl := 1) (tc := 3) (fin := 0) (z := 0) (by decide +kernel) (by decide +kernel) (by decide +kernel)).trans <| bd_cg fun x1 hx1 =>
  (l_cmp0 (show gPG 269 10 = some (.ifCond .ne 7) by decide +kernel) (t := 17) (by decide +kernel)).trans <| jm_ne.trans <| ite_cg (
  (l_iconst (show gPG 269 13 = some (.iconst 1) by decide +kernel) (c := 1) (by decide +kernel)).trans <|
  l_goto (show gPG 269 14 = some (.goto 4) by decide +kernel) (t := 18) (by decide +kernel)) (
  rfl))
theorem b269_17 (d : Nat) (μ : jM) (u0 : Value) : jR d 269 17 [u0] [] μ = jR d 269 18 [u0] [.int 0] μ :=
  l_iconst (show gPG 269 17 = some (.iconst 0) by decide +kernel) (c := 0) (by decide +kernel)
theorem b269_18 (d : Nat) (μ : jM) (u0 : Value) (s0 : Int32) : jR d 269 18 [u0] [.int s0] μ = (if jrf 4 s0 = true then some (some (.int s0), μ) else none) :=
  l_iret (show gPG 269 18 = some (.ireturn) by decide +kernel) (rc := 4) (by decide +kernel)
-- AbstractStringBuilder.append/I
theorem b270_0 (d : Nat) (μ : jM) (a : Nat) (i1 : Int32) : jR (d + 1) 270 0 [.ref a, .int i1, .retAddr 0, .retAddr 0] [] μ = (jgI μ 1 3 (.ref a)).bind fun x1 => (jC d 277 [.int i1] μ).bind fun p2 => jR (d + 1) 270 10 [.ref a, .int i1, .int x1, .retAddr 0] (p2.1.toList ++ [.int x1]) p2.2 :=
  (l_aload_n (show gPG 270 0 = some (.aload_n 0) by decide +kernel) rfl jr_ref).trans <|
  (l_gI (show gPG 270 1 = some (.getfield 79) by decide +kernel) (kd := 1) (sl := 3) (tc := 0) (fin := 0) (z := 0) (by decide +kernel) (by decide +kernel) (by decide +kernel)).trans <| bd_cg fun x1 hx1 =>
  (l_istore_n (show gPG 270 4 = some (.istore_n 2) by decide +kernel) (ls := [.ref a, .int i1, .retAddr 0, .retAddr 0]) (show (2 : Nat) < 4 by decide) (show _ = ([.ref a, .int i1, .int x1, .retAddr 0] : List Value) from rfl)).trans <|
  (l_iload_n (show gPG 270 5 = some (.iload_n 2) by decide +kernel) rfl).trans <|
  (l_iload_n (show gPG 270 6 = some (.iload_n 1) by decide +kernel) rfl).trans <|
  l_callS (u := 2) (as := [.int i1]) (show gPG 270 7 = some (jinvI 2 245) by decide +kernel) (by decide) (cc := 277) (na := 1) (q4 := 0) (z := 12) (rest := [.int x1]) (by decide +kernel) (by decide +kernel)  rfl (show (1 : Nat) ≤ 2 by decide) rfl (csi cs0) (by decide +kernel) (cai ca0) (fun e => absurd e (by decide))
theorem b270_10 (d : Nat) (μ : jM) (a : Nat) (i1 : Int32) (i2 : Int32) (u3 : Value) (s0 : Int32) (s1 : Int32) : jR (d + 1) 270 10 [.ref a, .int i1, .int i2, u3] [.int s1, .int s0] μ = (if jrecv μ 1 (.ref a) = true then (jC d 267 [.ref a, .int (s0 + s1)] μ).bind fun p1 => jR (d + 1) 270 17 [.ref a, .int i1, .int i2, .int (s0 + s1)] (p1.1.toList ++ []) p1.2 else none) :=
  (l_iadd (show gPG 270 10 = some (.iadd) by decide +kernel) ).trans <|
  (l_istore_n (show gPG 270 11 = some (.istore_n 3) by decide +kernel) (ls := [.ref a, .int i1, .int i2, u3]) (show (3 : Nat) < 4 by decide) (show _ = ([.ref a, .int i1, .int i2, .int (s0 + s1)] : List Value) from rfl)).trans <|
  (l_aload_n (show gPG 270 12 = some (.aload_n 0) by decide +kernel) rfl jr_ref).trans <|
  (l_iload_n (show gPG 270 13 = some (.iload_n 3) by decide +kernel) rfl).trans <|
  l_callV (u := 1) (v := .ref a) (as := [.int (s0 + s1)]) (show gPG 270 14 = some (jinvI 1 100) by decide +kernel) (by decide) (cc := 267) (na := 2) (kd := 1) (q4 := 0) (z := 21) (rest := []) (by decide +kernel) (by decide +kernel)  rfl (show (2 : Nat) ≤ 2 by decide) rfl cs0 (by decide +kernel) (cai (cav jr_ref ca0))
theorem b270_17 (d : Nat) (μ : jM) (a : Nat) (i1 : Int32) (i2 : Int32) (i3 : Int32) : jR (d + 1) 270 17 [.ref a, .int i1, .int i2, .int i3] [] μ = (if jrecv μ 1 (.ref a) = true then (jC d 269 [.ref a] μ).bind fun p1 => jR (d + 1) 270 21 [.ref a, .int i1, .int i2, .int i3] (p1.1.toList ++ []) p1.2 else none) :=
  (l_aload_n (show gPG 270 17 = some (.aload_n 0) by decide +kernel) rfl jr_ref).trans <|
  l_callV (u := 1) (v := .ref a) (as := []) (show gPG 270 18 = some (jinvI 1 83) by decide +kernel) (by decide) (cc := 269) (na := 1) (kd := 1) (q4 := 0) (z := 17) (rest := []) (by decide +kernel) (by decide +kernel)  rfl (show (1 : Nat) ≤ 1 by decide) rfl cs0 (by decide +kernel) (cav jr_ref ca0)
theorem b270_21 (d : Nat) (μ : jM) (a : Nat) (i1 : Int32) (i2 : Int32) (i3 : Int32) (s0 : Int32) : jR (d + 1) 270 21 [.ref a, .int i1, .int i2, .int i3] [.int s0] μ = (if s0 = 0 then (jgR μ 1 0 (.ref a)).bind fun w1 => jR (d + 1) 270 44 [.ref a, .int i1, .int i2, .int i3] [w1, .int i3, .int i2, .int i1] μ else (jgR μ 1 0 (.ref a)).bind fun w2 => (jC d 278 [.int i1, .int i3, w2] μ).bind fun p3 => jR (d + 1) 270 33 [.ref a, .int i1, .int i2, .int i3] (p3.1.toList ++ []) p3.2) :=
  (l_cmp0 (show gPG 270 21 = some (.ifCond .eq 16) by decide +kernel) (t := 37) (by decide +kernel)).trans <| jm_eq.trans <| ite_cg (
  (l_iload_n (show gPG 270 37 = some (.iload_n 1) by decide +kernel) rfl).trans <|
  (l_iload_n (show gPG 270 38 = some (.iload_n 2) by decide +kernel) rfl).trans <|
  (l_iload_n (show gPG 270 39 = some (.iload_n 3) by decide +kernel) rfl).trans <|
  (l_aload_n (show gPG 270 40 = some (.aload_n 0) by decide +kernel) rfl jr_ref).trans <|
  (l_gR (show gPG 270 41 = some (.getfield 15) by decide +kernel) (kd := 1) (sl := 0) (tc := 1) (fin := 0) (z := 0) (by decide +kernel) (by decide +kernel) (by decide +kernel)).trans <| bd_cg fun w1 hw1 =>
  rfl) (
  (l_iload_n (show gPG 270 24 = some (.iload_n 1) by decide +kernel) rfl).trans <|
  (l_iload_n (show gPG 270 25 = some (.iload_n 3) by decide +kernel) rfl).trans <|
  (l_aload_n (show gPG 270 26 = some (.aload_n 0) by decide +kernel) rfl jr_ref).trans <|
  (l_gR (show gPG 270 27 = some (.getfield 15) by decide +kernel) (kd := 1) (sl := 0) (tc := 1) (fin := 0) (z := 0) (by decide +kernel) (by decide +kernel) (by decide +kernel)).trans <| bd_cg fun w2 hw2 =>
  l_callS (u := 2) (as := [.int i1, .int i3, w2]) (show gPG 270 30 = some (jinvI 2 248) by decide +kernel) (by decide) (cc := 278) (na := 3) (q4 := 0) (z := 12) (rest := []) (by decide +kernel) (by decide +kernel)  rfl (show (3 : Nat) ≤ 3 by decide) rfl cs0 (by decide +kernel) (cav (jr_gR hw2) (cai (cai ca0))) (fun e => absurd e (by decide)))
theorem b270_33 (d : Nat) (μ : jM) (a : Nat) (u1 : Value) (u2 : Value) (i3 : Int32) (s0 : Int32) : jR d 270 33 [.ref a, u1, u2, .int i3] [.int s0] μ = jR d 270 48 [.ref a, u1, u2, .int i3] [] μ :=
  (l_pop (show gPG 270 33 = some (.pop) by decide +kernel) rfl).trans <|
  l_goto (show gPG 270 34 = some (.goto 14) by decide +kernel) (t := 48) (by decide +kernel)
theorem b270_48 (d : Nat) (μ : jM) (a : Nat) (u1 : Value) (u2 : Value) (i3 : Int32) : jR d 270 48 [.ref a, u1, u2, .int i3] [] μ = (jpI μ 1 3 0 (.ref a) i3).bind fun m1 => some (some (.ref a), m1) :=
  (l_aload_n (show gPG 270 48 = some (.aload_n 0) by decide +kernel) rfl jr_ref).trans <|
  (l_iload_n (show gPG 270 49 = some (.iload_n 3) by decide +kernel) rfl).trans <|
  (l_pI (show gPG 270 50 = some (.putfield 79) by decide +kernel) (kd := 1) (sl := 3) (tc := 0) (fin := 0) (z := 0) (by decide +kernel) (by decide +kernel) (by decide +kernel)).trans <| bd_cg fun m1 hm1 =>
  (l_aload_n (show gPG 270 53 = some (.aload_n 0) by decide +kernel) rfl jr_ref).trans <|
  l_aret (show gPG 270 54 = some (.areturn) by decide +kernel) (by decide +kernel) jr_ref
-- AbstractStringBuilder.append/LString;
theorem b271_0 (d : Nat) (μ : jM) (a : Nat) (r1 : Value) (h1 : jisref r1 = true) : jR (d + 1) 271 0 [.ref a, r1, .retAddr 0] [] μ = (if jun r1 = none then jR (d + 1) 271 5 [.ref a, r1, .retAddr 0] [.ref a] μ else (if jrecv μ 0 r1 = true then (jC d 281 [r1] μ).bind fun p1 => jR (d + 1) 271 13 [.ref a, r1, .retAddr 0] (p1.1.toList ++ []) p1.2 else none)) :=
  (l_aload_n (show gPG 271 0 = some (.aload_n 1) by decide +kernel) rfl h1).trans <|
  (l_ifnonnull (show gPG 271 1 = some (.ifnonnull 8) by decide +kernel) h1 (t := 9) (by decide +kernel)).trans <| ite_cg (
  l_aload_n (show gPG 271 4 = some (.aload_n 0) by decide +kernel) rfl jr_ref) (
  (l_aload_n (show gPG 271 9 = some (.aload_n 1) by decide +kernel) rfl h1).trans <|
  l_callV (u := 1) (v := r1) (as := []) (show gPG 271 10 = some (jinvI 1 32) by decide +kernel) (by decide) (cc := 281) (na := 1) (kd := 0) (q4 := 0) (z := 10) (rest := []) (by decide +kernel) (by decide +kernel)  rfl (show (1 : Nat) ≤ 1 by decide) rfl cs0 (by decide +kernel) (cav h1 ca0))
theorem b271_13 (d : Nat) (μ : jM) (a : Nat) (r1 : Value) (u2 : Value) (s0 : Int32) (h1 : jisref r1 = true) : jR (d + 1) 271 13 [.ref a, r1, u2] [.int s0] μ = (jgI μ 1 3 (.ref a)).bind fun x1 => (if jrecv μ 1 (.ref a) = true then (jC d 267 [.ref a, .int (x1 + s0)] μ).bind fun p2 => jR (d + 1) 271 24 [.ref a, r1, .int s0] (p2.1.toList ++ []) p2.2 else none) :=
  (l_istore_n (show gPG 271 13 = some (.istore_n 2) by decide +kernel) (ls := [.ref a, r1, u2]) (show (2 : Nat) < 3 by decide) (show _ = ([.ref a, r1, .int s0] : List Value) from rfl)).trans <|
  (l_aload_n (show gPG 271 14 = some (.aload_n 0) by decide +kernel) rfl jr_ref).trans <|
  (l_aload_n (show gPG 271 15 = some (.aload_n 0) by decide +kernel) rfl jr_ref).trans <|
  (l_gI (show gPG 271 16 = some (.getfield 79) by decide +kernel) (kd := 1) (sl := 3) (tc := 0) (fin := 0) (z := 0) (by decide +kernel) (by decide +kernel) (by decide +kernel)).trans <| bd_cg fun x1 hx1 =>
  (l_iload_n (show gPG 271 19 = some (.iload_n 2) by decide +kernel) rfl).trans <|
  (l_iadd (show gPG 271 20 = some (.iadd) by decide +kernel) ).trans <|
  l_callV (u := 1) (v := .ref a) (as := [.int (x1 + s0)]) (show gPG 271 21 = some (jinvI 1 100) by decide +kernel) (by decide) (cc := 267) (na := 2) (kd := 1) (q4 := 0) (z := 21) (rest := []) (by decide +kernel) (by decide +kernel)  rfl (show (2 : Nat) ≤ 2 by decide) rfl cs0 (by decide +kernel) (cai (cav jr_ref ca0))
theorem b271_24 (d : Nat) (μ : jM) (a : Nat) (r1 : Value) (i2 : Int32) (h1 : jisref r1 = true) : jR (d + 1) 271 24 [.ref a, r1, .int i2] [] μ = (jgI μ 1 3 (.ref a)).bind fun x1 => (if jrecv μ 1 (.ref a) = true then (jC d 272 [.ref a, .int x1, r1] μ).bind fun p2 => jR (d + 1) 271 33 [.ref a, r1, .int i2] (p2.1.toList ++ []) p2.2 else none) :=
  (l_aload_n (show gPG 271 24 = some (.aload_n 0) by decide +kernel) rfl jr_ref).trans <|
  (l_aload_n (show gPG 271 25 = some (.aload_n 0) by decide +kernel) rfl jr_ref).trans <|
  (l_gI (show gPG 271 26 = some (.getfield 79) by decide +kernel) (kd := 1) (sl := 3) (tc := 0) (fin := 0) (z := 0) (by decide +kernel) (by decide +kernel) (by decide +kernel)).trans <| bd_cg fun x1 hx1 =>
  (l_aload_n (show gPG 271 29 = some (.aload_n 1) by decide +kernel) rfl h1).trans <|
  l_callV (u := 1) (v := .ref a) (as := [.int x1, r1]) (show gPG 271 30 = some (jinvI 1 208) by decide +kernel) (by decide) (cc := 272) (na := 3) (kd := 1) (q4 := 0) (z := 21) (rest := []) (by decide +kernel) (by decide +kernel)  rfl (show (3 : Nat) ≤ 3 by decide) rfl cs0 (by decide +kernel) (cav h1 (cai (cav jr_ref ca0)))
theorem b271_33 (d : Nat) (μ : jM) (a : Nat) (u1 : Value) (i2 : Int32) : jR d 271 33 [.ref a, u1, .int i2] [] μ = (jgI μ 1 3 (.ref a)).bind fun x1 => (jpI μ 1 3 0 (.ref a) (x1 + i2)).bind fun m2 => some (some (.ref a), m2) :=
  (l_aload_n (show gPG 271 33 = some (.aload_n 0) by decide +kernel) rfl jr_ref).trans <|
  (l_dup (show gPG 271 34 = some (.dup) by decide +kernel) (jr_cat1 jr_ref)).trans <|
  (l_gI (show gPG 271 35 = some (.getfield 79) by decide +kernel) (kd := 1) (sl := 3) (tc := 0) (fin := 0) (z := 0) (by decide +kernel) (by decide +kernel) (by decide +kernel)).trans <| bd_cg fun x1 hx1 =>
  (l_iload_n (show gPG 271 38 = some (.iload_n 2) by decide +kernel) rfl).trans <|
  (l_iadd (show gPG 271 39 = some (.iadd) by decide +kernel) ).trans <|
  (l_pI (show gPG 271 40 = some (.putfield 79) by decide +kernel) (kd := 1) (sl := 3) (tc := 0) (fin := 0) (z := 0) (by decide +kernel) (by decide +kernel) (by decide +kernel)).trans <| bd_cg fun m2 hm2 =>
  (l_aload_n (show gPG 271 43 = some (.aload_n 0) by decide +kernel) rfl jr_ref).trans <|
  l_aret (show gPG 271 44 = some (.areturn) by decide +kernel) (by decide +kernel) jr_ref
-- AbstractStringBuilder.putStringAt
theorem b272_0 (d : Nat) (μ : jM) (a : Nat) (i1 : Int32) (r2 : Value) (h2 : jisref r2 = true) : jR (d + 1) 272 0 [.ref a, .int i1, r2] [] μ = (if jrecv μ 1 (.ref a) = true then (jC d 273 [.ref a, r2] μ).bind fun p1 => jR (d + 1) 272 5 [.ref a, .int i1, r2] (p1.1.toList ++ []) p1.2 else none) :=
  (l_aload_n (show gPG 272 0 = some (.aload_n 0) by decide +kernel) rfl jr_ref).trans <|
  (l_aload_n (show gPG 272 1 = some (.aload_n 2) by decide +kernel) rfl h2).trans <|
  l_callV (u := 1) (v := .ref a) (as := [r2]) (show gPG 272 2 = some (jinvI 1 397) by decide +kernel) (by decide) (cc := 273) (na := 2) (kd := 1) (q4 := 0) (z := 21) (rest := []) (by decide +kernel) (by decide +kernel)  rfl (show (2 : Nat) ≤ 2 by decide) rfl cs0 (by decide +kernel) (cav h2 (cav jr_ref ca0))
theorem b272_5 (d : Nat) (μ : jM) (a : Nat) (i1 : Int32) (r2 : Value) (h2 : jisref r2 = true) : jR (d + 1) 272 5 [.ref a, .int i1, r2] [] μ = (jgR μ 1 0 (.ref a)).bind fun w1 => (jgI μ 1 1 (.ref a)).bind fun x2 => (if jrecv μ 0 r2 = true then (jC d 286 [r2, w1, .int i1, .int x2] μ).bind fun p3 => jR (d + 1) 272 18 [.ref a, .int i1, r2] (p3.1.toList ++ []) p3.2 else none) :=
  (l_aload_n (show gPG 272 5 = some (.aload_n 2) by decide +kernel) rfl h2).trans <|
  (l_aload_n (show gPG 272 6 = some (.aload_n 0) by decide +kernel) rfl jr_ref).trans <|
  (l_gR (show gPG 272 7 = some (.getfield 15) by decide +kernel) (kd := 1) (sl := 0) (tc := 1) (fin := 0) (z := 0) (by decide +kernel) (by decide +kernel) (by decide +kernel)).trans <| bd_cg fun w1 hw1 =>
  (l_iload_n (show gPG 272 10 = some (.iload_n 1) by decide +kernel) rfl).trans <|
  (l_aload_n (show gPG 272 11 = some (.aload_n 0) by decide +kernel) rfl jr_ref).trans <|
  (l_gI (show gPG 272 12 = some (.getfield 22) by decide +kernel) (kd := 1) (sl := 1) (tc := 3) (fin := 0) (z := 0) (by decide +kernel) (by decide +kernel) (by decide +kernel)).trans <| bd_cg fun x2 hx2 =>
  l_callV (u := 1) (v := r2) (as := [w1, .int i1, .int x2]) (show gPG 272 15 = some (jinvI 1 399) by decide +kernel) (by decide) (cc := 286) (na := 4) (kd := 0) (q4 := 0) (z := 10) (rest := []) (by decide +kernel) (by decide +kernel)  rfl (show (4 : Nat) ≤ 4 by decide) rfl cs0 (by decide +kernel) (cai (cai (cav (jr_gR hw1) (cav h2 ca0))))
theorem b272_18 (d : Nat) (μ : jM) (u0 : Value) (u1 : Value) (u2 : Value) : jR d 272 18 [u0, u1, u2] [] μ = some (none, μ) :=
  l_ret (show gPG 272 18 = some (.return_) by decide +kernel) (by decide +kernel)
-- AbstractStringBuilder.inflateIfNeededFor
theorem b273_0 (d : Nat) (μ : jM) (a : Nat) (r1 : Value) (h1 : jisref r1 = true) (hx : jX μ) : jR (d + 1) 273 0 [.ref a, r1] [] μ = (if 1 = 0 then jR (d + 1) 273 21 [.ref a, r1] [] μ else (jgI μ 1 1 (.ref a)).bind fun x1 => (if jrecv μ 0 r1 = true then (jC d 282 [r1] μ).bind fun p2 => jR (d + 1) 273 14 [.ref a, r1] (p2.1.toList ++ [.int x1]) p2.2 else none)) :=
  (l_getsI (show gPG 273 0 = some (.getstatic 18) by decide +kernel) (j := 0) (c := 1) (by decide +kernel) (by decide +kernel) hx.1).trans <|
  (l_cmp0 (show gPG 273 3 = some (.ifCond .eq 18) by decide +kernel) (t := 21) (by decide +kernel)).trans <| jm_eq.trans <| ite_cg (
  rfl) (
  (l_aload_n (show gPG 273 6 = some (.aload_n 0) by decide +kernel) rfl jr_ref).trans <|
  (l_gI (show gPG 273 7 = some (.getfield 22) by decide +kernel) (kd := 1) (sl := 1) (tc := 3) (fin := 0) (z := 0) (by decide +kernel) (by decide +kernel) (by decide +kernel)).trans <| bd_cg fun x1 hx1 =>
  (l_aload_n (show gPG 273 10 = some (.aload_n 1) by decide +kernel) rfl h1).trans <|
  l_callV (u := 1) (v := r1) (as := []) (show gPG 273 11 = some (jinvI 1 40) by decide +kernel) (by decide) (cc := 282) (na := 1) (kd := 0) (q4 := 0) (z := 10) (rest := [.int x1]) (by decide +kernel) (by decide +kernel)  rfl (show (1 : Nat) ≤ 2 by decide) rfl (csi cs0) (by decide +kernel) (cav h1 ca0))
theorem b273_14 (d : Nat) (μ : jM) (a : Nat) (u1 : Value) (s0 : Int32) (s1 : Int32) : jR d 273 14 [.ref a, u1] [.int s1, .int s0] μ = (if s0 = s1 then jR d 273 21 [.ref a, u1] [] μ else jR d 273 18 [.ref a, u1] [.ref a] μ) :=
  (l_cmp (show gPG 273 14 = some (.if_icmp .eq 7) by decide +kernel) (t := 21) (by decide +kernel)).trans <| jm_eq.trans <| ite_cg (
  rfl) (
  l_aload_n (show gPG 273 17 = some (.aload_n 0) by decide +kernel) rfl jr_ref)
theorem b273_21 (d : Nat) (μ : jM) (u0 : Value) (u1 : Value) : jR d 273 21 [u0, u1] [] μ = some (none, μ) :=
  l_ret (show gPG 273 21 = some (.return_) by decide +kernel) (by decide +kernel)
-- AbstractStringBuilder.length
theorem b274_0 (d : Nat) (μ : jM) (a : Nat) : jR d 274 0 [.ref a] [] μ = (jgI μ 1 3 (.ref a)).bind fun x1 => some (some (.int x1), μ) :=
  (l_aload_n (show gPG 274 0 = some (.aload_n 0) by decide +kernel) rfl jr_ref).trans <|
  (l_gI (show gPG 274 1 = some (.getfield 79) by decide +kernel) (kd := 1) (sl := 3) (tc := 0) (fin := 0) (z := 0) (by decide +kernel) (by decide +kernel) (by decide +kernel)).trans <| bd_cg fun x1 hx1 =>
  l_iret1 (show gPG 274 4 = some (.ireturn) by decide +kernel) (by decide +kernel)
-- AbstractStringBuilder.charAt
theorem b275_0 (d : Nat) (μ : jM) (a : Nat) (i1 : Int32) : jR (d + 1) 275 0 [.ref a, .int i1, .retAddr 0, .retAddr 0, .retAddr 0] [] μ = (jgI μ 1 1 (.ref a)).bind fun x1 => (jgR μ 1 0 (.ref a)).bind fun w2 => (jgI μ 1 3 (.ref a)).bind fun x3 => (jal μ w2).bind fun x4 => (jC d 279 [.int x3, .int (x4 >>> (x1 &&& 31))] μ).bind fun p5 => jR (d + 1) 275 21 [.ref a, .int i1, .int x1, w2, .retAddr 0] (p5.1.toList ++ []) p5.2 :=
  (l_aload_n (show gPG 275 0 = some (.aload_n 0) by decide +kernel) rfl jr_ref).trans <|
  (l_gI (show gPG 275 1 = some (.getfield 22) by decide +kernel) (kd := 1) (sl := 1) (tc := 3) (fin := 0) (z := 0) (by decide +kernel) (by decide +kernel) (by decide +kernel)).trans <| bd_cg fun x1 hx1 =>
  (l_istore_n (show gPG 275 4 = some (.istore_n 2) by decide +kernel) (ls := [.ref a, .int i1, .retAddr 0, .retAddr 0, .retAddr 0]) (show (2 : Nat) < 5 by decide) (show _ = ([.ref a, .int i1, .int x1, .retAddr 0, .retAddr 0] : List Value) from rfl)).trans <|
  (l_aload_n (show gPG 275 5 = some (.aload_n 0) by decide +kernel) rfl jr_ref).trans <|
  (l_gR (show gPG 275 6 = some (.getfield 15) by decide +kernel) (kd := 1) (sl := 0) (tc := 1) (fin := 0) (z := 0) (by decide +kernel) (by decide +kernel) (by decide +kernel)).trans <| bd_cg fun w2 hw2 =>
  (l_astore_n (show gPG 275 9 = some (.astore_n 3) by decide +kernel) (ls := [.ref a, .int i1, .int x1, .retAddr 0, .retAddr 0]) (jr_gR hw2) (show (3 : Nat) < 5 by decide) (show _ = ([.ref a, .int i1, .int x1, w2, .retAddr 0] : List Value) from rfl)).trans <|
  (l_aload_n (show gPG 275 10 = some (.aload_n 0) by decide +kernel) rfl jr_ref).trans <|
  (l_gI (show gPG 275 11 = some (.getfield 79) by decide +kernel) (kd := 1) (sl := 3) (tc := 0) (fin := 0) (z := 0) (by decide +kernel) (by decide +kernel) (by decide +kernel)).trans <| bd_cg fun x3 hx3 =>
  (l_aload_n (show gPG 275 14 = some (.aload_n 3) by decide +kernel) rfl (jr_gR hw2)).trans <|
  (l_alen (show gPG 275 15 = some (.arraylength) by decide +kernel) ).trans <| bd_cg fun x4 hx4 =>
  (l_iload_n (show gPG 275 16 = some (.iload_n 2) by decide +kernel) rfl).trans <|
  (l_ishr (show gPG 275 17 = some (.ishr) by decide +kernel) ).trans <|
  l_callS (u := 2) (as := [.int x3, .int (x4 >>> (x1 &&& 31))]) (show gPG 275 18 = some (jinvI 2 138) by decide +kernel) (by decide) (cc := 279) (na := 2) (q4 := 0) (z := 12) (rest := []) (by decide +kernel) (by decide +kernel)  rfl (show (2 : Nat) ≤ 2 by decide) rfl cs0 (by decide +kernel) (cai (cai ca0)) (fun e => absurd e (by decide))
theorem b275_21 (d : Nat) (μ : jM) (u0 : Value) (i1 : Int32) (i2 : Int32) (r3 : Value) (u4 : Value) (s0 : Int32) (h3 : jisref r3 = true) : jR (d + 1) 275 21 [u0, .int i1, .int i2, r3, u4] [.int s0] μ = (jC d 285 [.int i1, .int s0] μ).bind fun p1 => jR (d + 1) 275 29 [u0, .int i1, .int i2, r3, .int s0] (p1.1.toList ++ []) p1.2 :=
  (l_istore (show gPG 275 21 = some (.istore 4) by decide +kernel) (ls := [u0, .int i1, .int i2, r3, u4]) (show (4 : Nat) < 5 by decide) (show _ = ([u0, .int i1, .int i2, r3, .int s0] : List Value) from rfl)).trans <|
  (l_iload_n (show gPG 275 23 = some (.iload_n 1) by decide +kernel) rfl).trans <|
  (l_iload (show gPG 275 24 = some (.iload 4) by decide +kernel) rfl).trans <|
  l_callS (u := 2) (as := [.int i1, .int s0]) (show gPG 275 26 = some (jinvI 2 144) by decide +kernel) (by decide) (cc := 285) (na := 2) (q4 := 0) (z := 12) (rest := []) (by decide +kernel) (by decide +kernel)  rfl (show (2 : Nat) ≤ 2 by decide) rfl cs0 (by decide +kernel) (cai (cai ca0)) (fun e => absurd e (by decide))
theorem b275_29 (d : Nat) (μ : jM) (u0 : Value) (i1 : Int32) (i2 : Int32) (r3 : Value) (u4 : Value) (h3 : jisref r3 = true) : jR d 275 29 [u0, .int i1, .int i2, r3, u4] [] μ = (if i2 = 0 then (jaB μ r3 i1).bind fun x1 => (if jrf 6 ((Int32.toUInt32 (x1 &&& 255) % 65536).toInt32) = true then some (some (.int ((Int32.toUInt32 (x1 &&& 255) % 65536).toInt32)), μ) else none) else jR d 275 44 [u0, .int i1, .int i2, r3, u4] [.int i1, r3] μ) :=
  (l_iload_n (show gPG 275 29 = some (.iload_n 2) by decide +kernel) rfl).trans <|
  (l_cmp0 (show gPG 275 30 = some (.ifCond .ne 12) by decide +kernel) (t := 42) (by decide +kernel)).trans <| jm_ne.trans <| ite_cg (
  (l_aload_n (show gPG 275 33 = some (.aload_n 3) by decide +kernel) rfl h3).trans <|
  (l_iload_n (show gPG 275 34 = some (.iload_n 1) by decide +kernel) rfl).trans <|
  (l_bald (show gPG 275 35 = some (.baload) by decide +kernel) ).trans <| bd_cg fun x1 hx1 =>
  (l_sipush (show gPG 275 36 = some (.sipush 255) by decide +kernel) (c := 255) (by decide +kernel)).trans <|
  (l_iand (show gPG 275 39 = some (.iand) by decide +kernel) ).trans <|
  (l_i2c (show gPG 275 40 = some (.i2c) by decide +kernel) ).trans <|
  l_iret (show gPG 275 41 = some (.ireturn) by decide +kernel) (rc := 6) (by decide +kernel)) (
  (l_aload_n (show gPG 275 42 = some (.aload_n 3) by decide +kernel) rfl h3).trans <|
  l_iload_n (show gPG 275 43 = some (.iload_n 1) by decide +kernel) rfl)
-- AbstractStringBuilder.getValue
theorem b276_0 (d : Nat) (μ : jM) (a : Nat) : jR d 276 0 [.ref a] [] μ = (jgR μ 1 0 (.ref a)).bind fun w1 => some (some w1, μ) :=
  (l_aload_n (show gPG 276 0 = some (.aload_n 0) by decide +kernel) rfl jr_ref).trans <|
  (l_gR (show gPG 276 1 = some (.getfield 15) by decide +kernel) (kd := 1) (sl := 0) (tc := 1) (fin := 0) (z := 0) (by decide +kernel) (by decide +kernel) (by decide +kernel)).trans <| bd_cg fun w1 hw1 =>
  l_aret (show gPG 276 4 = some (.areturn) by decide +kernel) (by decide +kernel) (jr_gR hw1)
-- Integer.stringSize
theorem b277_0 (d : Nat) (μ : jM) (i0 : Int32) : jR d 277 0 [.int i0, .retAddr 0, .retAddr 0, .retAddr 0] [] μ = (if i0 < 0 then jR d 277 11 [.int i0, .int 1, .retAddr 0, .retAddr 0] [] μ else jR d 277 11 [.int (-i0), .int 0, .retAddr 0, .retAddr 0] [] μ) :=
  (l_iconst (show gPG 277 0 = some (.iconst 1) by decide +kernel) (c := 1) (by decide +kernel)).trans <|
  (l_istore_n (show gPG 277 1 = some (.istore_n 1) by decide +kernel) (ls := [.int i0, .retAddr 0, .retAddr 0, .retAddr 0]) (show (1 : Nat) < 4 by decide) (show _ = ([.int i0, .int 1, .retAddr 0, .retAddr 0] : List Value) from rfl)).trans <|
  (l_iload_n (show gPG 277 2 = some (.iload_n 0) by decide +kernel) rfl).trans <|
  (l_cmp0 (show gPG 277 3 = some (.ifCond .lt 8) by decide +kernel) (t := 11) (by decide +kernel)).trans <| jm_lt.trans <| ite_cg (
  rfl) (
  (l_iconst (show gPG 277 6 = some (.iconst 0) by decide +kernel) (c := 0) (by decide +kernel)).trans <|
  (l_istore_n (show gPG 277 7 = some (.istore_n 1) by decide +kernel) (ls := [.int i0, .int 1, .retAddr 0, .retAddr 0]) (show (1 : Nat) < 4 by decide) (show _ = ([.int i0, .int 0, .retAddr 0, .retAddr 0] : List Value) from rfl)).trans <|
  (l_iload_n (show gPG 277 8 = some (.iload_n 0) by decide +kernel) rfl).trans <|
  (l_ineg (show gPG 277 9 = some (.ineg) by decide +kernel) ).trans <|
  l_istore_n (show gPG 277 10 = some (.istore_n 0) by decide +kernel) (ls := [.int i0, .int 0, .retAddr 0, .retAddr 0]) (show (0 : Nat) < 4 by decide) (show _ = ([.int (-i0), .int 0, .retAddr 0, .retAddr 0] : List Value) from rfl))
theorem b277_11 (d : Nat) (μ : jM) (i0 : Int32) (i1 : Int32) (u2 : Value) (u3 : Value) : jR d 277 11 [.int i0, .int i1, u2, u3] [] μ = jR d 277 16 [.int i0, .int i1, .int (-10), .int 1] [] μ :=
  (l_bipush (show gPG 277 11 = some (.bipush (-10)) by decide +kernel) (c := (-10)) (by decide +kernel)).trans <|
  (l_istore_n (show gPG 277 13 = some (.istore_n 2) by decide +kernel) (ls := [.int i0, .int i1, u2, u3]) (show (2 : Nat) < 4 by decide) (show _ = ([.int i0, .int i1, .int (-10), u3] : List Value) from rfl)).trans <|
  (l_iconst (show gPG 277 14 = some (.iconst 1) by decide +kernel) (c := 1) (by decide +kernel)).trans <|
  l_istore_n (show gPG 277 15 = some (.istore_n 3) by decide +kernel) (ls := [.int i0, .int i1, .int (-10), u3]) (show (3 : Nat) < 4 by decide) (show _ = ([.int i0, .int i1, .int (-10), .int 1] : List Value) from rfl)
theorem b277_16 (d : Nat) (μ : jM) (i0 : Int32) (i1 : Int32) (i2 : Int32) (i3 : Int32) : jR d 277 16 [.int i0, .int i1, .int i2, .int i3] [] μ = (if i3 < 10 then (if i2 < i0 then some (some (.int (i3 + i1)), μ) else jR d 277 16 [.int i0, .int i1, .int (10 * i2), .int (i3 + 1)] [] μ) else some (some (.int (10 + i1)), μ)) :=
  (l_iload_n (show gPG 277 16 = some (.iload_n 3) by decide +kernel) rfl).trans <|
  (l_bipush (show gPG 277 17 = some (.bipush 10) by decide +kernel) (c := 10) (by decide +kernel)).trans <|
  (l_cmp (show gPG 277 19 = some (.if_icmp .ge 23) by decide +kernel) (t := 42) (by decide +kernel)).trans <| jm_ge.trans <| ite_cg (
  (l_iload_n (show gPG 277 22 = some (.iload_n 0) by decide +kernel) rfl).trans <|
  (l_iload_n (show gPG 277 23 = some (.iload_n 2) by decide +kernel) rfl).trans <|
  (l_cmp (show gPG 277 24 = some (.if_icmp .le 7) by decide +kernel) (t := 31) (by decide +kernel)).trans <| jm_le.trans <| ite_cg (
  (l_iload_n (show gPG 277 27 = some (.iload_n 3) by decide +kernel) rfl).trans <|
  (l_iload_n (show gPG 277 28 = some (.iload_n 1) by decide +kernel) rfl).trans <|
  (l_iadd (show gPG 277 29 = some (.iadd) by decide +kernel) ).trans <|
  l_iret1 (show gPG 277 30 = some (.ireturn) by decide +kernel) (by decide +kernel)) (
  (l_bipush (show gPG 277 31 = some (.bipush 10) by decide +kernel) (c := 10) (by decide +kernel)).trans <|
  (l_iload_n (show gPG 277 33 = some (.iload_n 2) by decide +kernel) rfl).trans <|
  (l_imul (show gPG 277 34 = some (.imul) by decide +kernel) ).trans <|
  (l_istore_n (show gPG 277 35 = some (.istore_n 2) by decide +kernel) (ls := [.int i0, .int i1, .int i2, .int i3]) (show (2 : Nat) < 4 by decide) (show _ = ([.int i0, .int i1, .int (10 * i2), .int i3] : List Value) from rfl)).trans <|
  (l_iinc (show gPG 277 36 = some (.iinc 3 1) by decide +kernel) (c := 1) (by decide +kernel) rfl (show _ = ([.int i0, .int i1, .int (10 * i2), .int (i3 + 1)] : List Value) from rfl)).trans <|
  l_goto (show gPG 277 39 = some (.goto (-23)) by decide +kernel) (t := 16) (by decide +kernel))) (
  (l_bipush (show gPG 277 42 = some (.bipush 10) by decide +kernel) (c := 10) (by decide +kernel)).trans <|
  (l_iload_n (show gPG 277 44 = some (.iload_n 1) by decide +kernel) rfl).trans <|
  (l_iadd (show gPG 277 45 = some (.iadd) by decide +kernel) ).trans <|
  l_iret1 (show gPG 277 46 = some (.ireturn) by decide +kernel) (by decide +kernel))
-- Integer.getChars
theorem b278_0 (d : Nat) (μ : jM) (i0 : Int32) (i1 : Int32) (r2 : Value) (h2 : jisref r2 = true) : jR d 278 0 [.int i0, .int i1, r2, .retAddr 0, .retAddr 0, .retAddr 0, .retAddr 0] [] μ = (if i0 < 0 then jR d 278 12 [.int i0, .int i1, r2, .retAddr 0, .retAddr 0, .int i1, .retAddr 0] [.int 1] μ else jR d 278 12 [.int i0, .int i1, r2, .retAddr 0, .retAddr 0, .int i1, .retAddr 0] [.int 0] μ) :=
  (l_iload_n (show gPG 278 0 = some (.iload_n 1) by decide +kernel) rfl).trans <|
  (l_istore (show gPG 278 1 = some (.istore 5) by decide +kernel) (ls := [.int i0, .int i1, r2, .retAddr 0, .retAddr 0, .retAddr 0, .retAddr 0]) (show (5 : Nat) < 7 by decide) (show _ = ([.int i0, .int i1, r2, .retAddr 0, .retAddr 0, .int i1, .retAddr 0] : List Value) from rfl)).trans <|
  (l_iload_n (show gPG 278 3 = some (.iload_n 0) by decide +kernel) rfl).trans <|
  (l_cmp0 (show gPG 278 4 = some (.ifCond .ge 7) by decide +kernel) (t := 11) (by decide +kernel)).trans <| jm_ge.trans <| ite_cg (
  (l_iconst (show gPG 278 7 = some (.iconst 1) by decide +kernel) (c := 1) (by decide +kernel)).trans <|
  l_goto (show gPG 278 8 = some (.goto 4) by decide +kernel) (t := 12) (by decide +kernel)) (
  l_iconst (show gPG 278 11 = some (.iconst 0) by decide +kernel) (c := 0) (by decide +kernel))
theorem b278_12 (d : Nat) (μ : jM) (i0 : Int32) (u1 : Value) (r2 : Value) (u3 : Value) (u4 : Value) (i5 : Int32) (u6 : Value) (s0 : Int32) (h2 : jisref r2 = true) : jR d 278 12 [.int i0, u1, r2, u3, u4, .int i5, u6] [.int s0] μ = (if s0 = 0 then jR d 278 22 [.int (-i0), u1, r2, u3, u4, .int i5, .int s0] [] μ else jR d 278 22 [.int i0, u1, r2, u3, u4, .int i5, .int s0] [] μ) :=
  (l_istore (show gPG 278 12 = some (.istore 6) by decide +kernel) (ls := [.int i0, u1, r2, u3, u4, .int i5, u6]) (show (6 : Nat) < 7 by decide) (show _ = ([.int i0, u1, r2, u3, u4, .int i5, .int s0] : List Value) from rfl)).trans <|
  (l_iload (show gPG 278 14 = some (.iload 6) by decide +kernel) rfl).trans <|
  (l_cmp0 (show gPG 278 16 = some (.ifCond .ne 6) by decide +kernel) (t := 22) (by decide +kernel)).trans <| jm_ne.trans <| ite_cg (
  (l_iload_n (show gPG 278 19 = some (.iload_n 0) by decide +kernel) rfl).trans <|
  (l_ineg (show gPG 278 20 = some (.ineg) by decide +kernel) ).trans <|
  l_istore_n (show gPG 278 21 = some (.istore_n 0) by decide +kernel) (ls := [.int i0, u1, r2, u3, u4, .int i5, .int s0]) (show (0 : Nat) < 7 by decide) (show _ = ([.int (-i0), u1, r2, u3, u4, .int i5, .int s0] : List Value) from rfl)) (
  rfl)
theorem b278_22 (d : Nat) (μ : jM) (i0 : Int32) (u1 : Value) (r2 : Value) (u3 : Value) (u4 : Value) (i5 : Int32) (i6 : Int32) (h2 : jisref r2 = true) (hx : jX μ) : jR d 278 22 [.int i0, u1, r2, u3, u4, .int i5, .int i6] [] μ = (if (-100) < i0 then (jaB μ ((jext μ 5)) (-i0)).bind fun x1 => (jsB μ r2 (i5 + (-1)) x1).bind fun m2 => (if i0 < (-9) then (jaB m2 ((jext m2 6)) (-i0)).bind fun x3 => (jsB m2 r2 ((i5 + (-1)) + (-1)) x3).bind fun m4 => jR d 278 104 [.int i0, u1, r2, u3, u4, .int ((i5 + (-1)) + (-1)), .int i6] [] m4 else jR d 278 104 [.int i0, u1, r2, u3, u4, .int (i5 + (-1)), .int i6] [] m2) else (jaB μ ((jext μ 5)) (((i0 / 100) * 100) - i0)).bind fun x5 => (jsB μ r2 (i5 + (-1)) x5).bind fun m6 => (jaB m6 ((jext m6 6)) (((i0 / 100) * 100) - i0)).bind fun x7 => (jsB m6 r2 ((i5 + (-1)) + (-1)) x7).bind fun m8 => jR d 278 22 [.int (i0 / 100), u1, r2, .int (i0 / 100), .int (((i0 / 100) * 100) - i0), .int ((i5 + (-1)) + (-1)), .int i6] [] m8) :=
  (l_iload_n (show gPG 278 22 = some (.iload_n 0) by decide +kernel) rfl).trans <|
  (l_bipush (show gPG 278 23 = some (.bipush (-100)) by decide +kernel) (c := (-100)) (by decide +kernel)).trans <|
  (l_cmp (show gPG 278 25 = some (.if_icmp .gt 47) by decide +kernel) (t := 72) (by decide +kernel)).trans <| jm_gt.trans <| ite_cg (
  (l_aload_n (show gPG 278 72 = some (.aload_n 2) by decide +kernel) rfl h2).trans <|
  (l_iinc (show gPG 278 73 = some (.iinc 5 (-1)) by decide +kernel) (c := (-1)) (by decide +kernel) rfl (show _ = ([.int i0, u1, r2, u3, u4, .int (i5 + (-1)), .int i6] : List Value) from rfl)).trans <|
  (l_iload (show gPG 278 76 = some (.iload 5) by decide +kernel) rfl).trans <|
  (l_gets (show gPG 278 78 = some (.getstatic 83) by decide +kernel) (j := 5) (by decide +kernel) (by decide +kernel)).trans <|
  (l_iload_n (show gPG 278 81 = some (.iload_n 0) by decide +kernel) rfl).trans <|
  (l_ineg (show gPG 278 82 = some (.ineg) by decide +kernel) ).trans <|
  (l_bald (show gPG 278 83 = some (.baload) by decide +kernel) ).trans <| bd_cg fun x1 hx1 =>
  (l_bast (show gPG 278 84 = some (.bastore) by decide +kernel) ).trans <| bd_cg fun m2 hm2 =>
  (l_iload_n (show gPG 278 85 = some (.iload_n 0) by decide +kernel) rfl).trans <|
  (l_bipush (show gPG 278 86 = some (.bipush (-9)) by decide +kernel) (c := (-9)) (by decide +kernel)).trans <|
  (l_cmp (show gPG 278 88 = some (.if_icmp .ge 16) by decide +kernel) (t := 104) (by decide +kernel)).trans <| jm_ge.trans <| ite_cg (
  (l_aload_n (show gPG 278 91 = some (.aload_n 2) by decide +kernel) rfl h2).trans <|
  (l_iinc (show gPG 278 92 = some (.iinc 5 (-1)) by decide +kernel) (c := (-1)) (by decide +kernel) rfl (show _ = ([.int i0, u1, r2, u3, u4, .int ((i5 + (-1)) + (-1)), .int i6] : List Value) from rfl)).trans <|
  (l_iload (show gPG 278 95 = some (.iload 5) by decide +kernel) rfl).trans <|
  (l_gets (show gPG 278 97 = some (.getstatic 87) by decide +kernel) (j := 6) (by decide +kernel) (by decide +kernel)).trans <|
  (l_iload_n (show gPG 278 100 = some (.iload_n 0) by decide +kernel) rfl).trans <|
  (l_ineg (show gPG 278 101 = some (.ineg) by decide +kernel) ).trans <|
  (l_bald (show gPG 278 102 = some (.baload) by decide +kernel) ).trans <| bd_cg fun x3 hx3 =>
  (l_bast (show gPG 278 103 = some (.bastore) by decide +kernel) ).trans <| bd_cg fun m4 hm4 =>
  rfl) (
  rfl)) (
  (l_iload_n (show gPG 278 28 = some (.iload_n 0) by decide +kernel) rfl).trans <|
  (l_bipush (show gPG 278 29 = some (.bipush 100) by decide +kernel) (c := 100) (by decide +kernel)).trans <|
  (l_idivK (show gPG 278 31 = some (.idiv) by decide +kernel) (by decide +kernel)).trans <|
  (l_istore_n (show gPG 278 32 = some (.istore_n 3) by decide +kernel) (ls := [.int i0, u1, r2, u3, u4, .int i5, .int i6]) (show (3 : Nat) < 7 by decide) (show _ = ([.int i0, u1, r2, .int (i0 / 100), u4, .int i5, .int i6] : List Value) from rfl)).trans <|
  (l_iload_n (show gPG 278 33 = some (.iload_n 3) by decide +kernel) rfl).trans <|
  (l_bipush (show gPG 278 34 = some (.bipush 100) by decide +kernel) (c := 100) (by decide +kernel)).trans <|
  (l_imul (show gPG 278 36 = some (.imul) by decide +kernel) ).trans <|
  (l_iload_n (show gPG 278 37 = some (.iload_n 0) by decide +kernel) rfl).trans <|
  (l_isub (show gPG 278 38 = some (.isub) by decide +kernel) ).trans <|
  (l_istore (show gPG 278 39 = some (.istore 4) by decide +kernel) (ls := [.int i0, u1, r2, .int (i0 / 100), u4, .int i5, .int i6]) (show (4 : Nat) < 7 by decide) (show _ = ([.int i0, u1, r2, .int (i0 / 100), .int (((i0 / 100) * 100) - i0), .int i5, .int i6] : List Value) from rfl)).trans <|
  (l_iload_n (show gPG 278 41 = some (.iload_n 3) by decide +kernel) rfl).trans <|
  (l_istore_n (show gPG 278 42 = some (.istore_n 0) by decide +kernel) (ls := [.int i0, u1, r2, .int (i0 / 100), .int (((i0 / 100) * 100) - i0), .int i5, .int i6]) (show (0 : Nat) < 7 by decide) (show _ = ([.int (i0 / 100), u1, r2, .int (i0 / 100), .int (((i0 / 100) * 100) - i0), .int i5, .int i6] : List Value) from rfl)).trans <|
  (l_aload_n (show gPG 278 43 = some (.aload_n 2) by decide +kernel) rfl h2).trans <|
  (l_iinc (show gPG 278 44 = some (.iinc 5 (-1)) by decide +kernel) (c := (-1)) (by decide +kernel) rfl (show _ = ([.int (i0 / 100), u1, r2, .int (i0 / 100), .int (((i0 / 100) * 100) - i0), .int (i5 + (-1)), .int i6] : List Value) from rfl)).trans <|
  (l_iload (show gPG 278 47 = some (.iload 5) by decide +kernel) rfl).trans <|
  (l_gets (show gPG 278 49 = some (.getstatic 83) by decide +kernel) (j := 5) (by decide +kernel) (by decide +kernel)).trans <|
  (l_iload (show gPG 278 52 = some (.iload 4) by decide +kernel) rfl).trans <|
  (l_bald (show gPG 278 54 = some (.baload) by decide +kernel) ).trans <| bd_cg fun x5 hx5 =>
  (l_bast (show gPG 278 55 = some (.bastore) by decide +kernel) ).trans <| bd_cg fun m6 hm6 =>
  (l_aload_n (show gPG 278 56 = some (.aload_n 2) by decide +kernel) rfl h2).trans <|
  (l_iinc (show gPG 278 57 = some (.iinc 5 (-1)) by decide +kernel) (c := (-1)) (by decide +kernel) rfl (show _ = ([.int (i0 / 100), u1, r2, .int (i0 / 100), .int (((i0 / 100) * 100) - i0), .int ((i5 + (-1)) + (-1)), .int i6] : List Value) from rfl)).trans <|
  (l_iload (show gPG 278 60 = some (.iload 5) by decide +kernel) rfl).trans <|
  (l_gets (show gPG 278 62 = some (.getstatic 87) by decide +kernel) (j := 6) (by decide +kernel) (by decide +kernel)).trans <|
  (l_iload (show gPG 278 65 = some (.iload 4) by decide +kernel) rfl).trans <|
  (l_bald (show gPG 278 67 = some (.baload) by decide +kernel) ).trans <| bd_cg fun x7 hx7 =>
  (l_bast (show gPG 278 68 = some (.bastore) by decide +kernel) ).trans <| bd_cg fun m8 hm8 =>
  l_goto (show gPG 278 69 = some (.goto (-47)) by decide +kernel) (t := 22) (by decide +kernel))
theorem b278_104 (d : Nat) (μ : jM) (u0 : Value) (u1 : Value) (r2 : Value) (u3 : Value) (u4 : Value) (i5 : Int32) (i6 : Int32) (h2 : jisref r2 = true) : jR d 278 104 [u0, u1, r2, u3, u4, .int i5, .int i6] [] μ = (if i6 = 0 then jR d 278 118 [u0, u1, r2, u3, u4, .int i5, .int i6] [] μ else (jsB μ r2 (i5 + (-1)) 45).bind fun m1 => jR d 278 118 [u0, u1, r2, u3, u4, .int (i5 + (-1)), .int i6] [] m1) :=
  (l_iload (show gPG 278 104 = some (.iload 6) by decide +kernel) rfl).trans <|
  (l_cmp0 (show gPG 278 106 = some (.ifCond .eq 12) by decide +kernel) (t := 118) (by decide +kernel)).trans <| jm_eq.trans <| ite_cg (
  rfl) (
  (l_aload_n (show gPG 278 109 = some (.aload_n 2) by decide +kernel) rfl h2).trans <|
  (l_iinc (show gPG 278 110 = some (.iinc 5 (-1)) by decide +kernel) (c := (-1)) (by decide +kernel) rfl (show _ = ([u0, u1, r2, u3, u4, .int (i5 + (-1)), .int i6] : List Value) from rfl)).trans <|
  (l_iload (show gPG 278 113 = some (.iload 5) by decide +kernel) rfl).trans <|
  (l_bipush (show gPG 278 115 = some (.bipush 45) by decide +kernel) (c := 45) (by decide +kernel)).trans <|
  (l_bast (show gPG 278 117 = some (.bastore) by decide +kernel) ).trans <| bd_cg fun m1 hm1 =>
  rfl)
theorem b278_118 (d : Nat) (μ : jM) (u0 : Value) (u1 : Value) (u2 : Value) (u3 : Value) (u4 : Value) (i5 : Int32) (u6 : Value) : jR d 278 118 [u0, u1, u2, u3, u4, .int i5, u6] [] μ = some (some (.int i5), μ) :=
  (l_iload (show gPG 278 118 = some (.iload 5) by decide +kernel) rfl).trans <|
  l_iret1 (show gPG 278 120 = some (.ireturn) by decide +kernel) (by decide +kernel)
-- String.length
theorem b281_0 (d : Nat) (μ : jM) (a : Nat) : jR (d + 1) 281 0 [.ref a] [] μ = (jgR μ 0 0 (.ref a)).bind fun w1 => (jal μ w1).bind fun x2 => (if jrecv μ 0 (.ref a) = true then (jC d 282 [.ref a] μ).bind fun p3 => jR (d + 1) 281 9 [.ref a] (p3.1.toList ++ [.int x2]) p3.2 else none) :=
  (l_aload_n (show gPG 281 0 = some (.aload_n 0) by decide +kernel) rfl jr_ref).trans <|
  (l_gR (show gPG 281 1 = some (.getfield 9) by decide +kernel) (kd := 0) (sl := 0) (tc := 1) (fin := 1) (z := 0) (by decide +kernel) (by decide +kernel) (by decide +kernel)).trans <| bd_cg fun w1 hw1 =>
  (l_alen (show gPG 281 4 = some (.arraylength) by decide +kernel) ).trans <| bd_cg fun x2 hx2 =>
  (l_aload_n (show gPG 281 5 = some (.aload_n 0) by decide +kernel) rfl jr_ref).trans <|
  l_callV (u := 1) (v := .ref a) (as := []) (show gPG 281 6 = some (jinvI 1 335) by decide +kernel) (by decide) (cc := 282) (na := 1) (kd := 0) (q4 := 0) (z := 10) (rest := [.int x2]) (by decide +kernel) (by decide +kernel)  rfl (show (1 : Nat) ≤ 2 by decide) rfl (csi cs0) (by decide +kernel) (cav jr_ref ca0)
theorem b281_9 (d : Nat) (μ : jM) (u0 : Value) (s0 : Int32) (s1 : Int32) : jR d 281 9 [u0] [.int s1, .int s0] μ = some (some (.int (s0 >>> (s1 &&& 31))), μ) :=
  (l_ishr (show gPG 281 9 = some (.ishr) by decide +kernel) ).trans <|
  l_iret1 (show gPG 281 10 = some (.ireturn) by decide +kernel) (by decide +kernel)
-- String.coder
theorem b282_0 (d : Nat) (μ : jM) (a : Nat) (hx : jX μ) : jR d 282 0 [.ref a] [] μ = (if 1 = 0 then jR d 282 14 [.ref a] [.int 1] μ else (jgI μ 0 1 (.ref a)).bind fun x1 => jR d 282 14 [.ref a] [.int x1] μ) :=
  (l_getsI (show gPG 282 0 = some (.getstatic 38) by decide +kernel) (j := 0) (c := 1) (by decide +kernel) (by decide +kernel) hx.1).trans <|
  (l_cmp0 (show gPG 282 3 = some (.ifCond .eq 10) by decide +kernel) (t := 13) (by decide +kernel)).trans <| jm_eq.trans <| ite_cg (
  l_iconst (show gPG 282 13 = some (.iconst 1) by decide +kernel) (c := 1) (by decide +kernel)) (
  (l_aload_n (show gPG 282 6 = some (.aload_n 0) by decide +kernel) rfl jr_ref).trans <|
  (l_gI (show gPG 282 7 = some (.getfield 15) by decide +kernel) (kd := 0) (sl := 1) (tc := 3) (fin := 1) (z := 0) (by decide +kernel) (by decide +kernel) (by decide +kernel)).trans <| bd_cg fun x1 hx1 =>
  l_goto (show gPG 282 10 = some (.goto 4) by decide +kernel) (t := 14) (by decide +kernel))
theorem b282_14 (d : Nat) (μ : jM) (u0 : Value) (s0 : Int32) : jR d 282 14 [u0] [.int s0] μ = (if jrf 5 s0 = true then some (some (.int s0), μ) else none) :=
  l_iret (show gPG 282 14 = some (.ireturn) by decide +kernel) (rc := 5) (by decide +kernel)
-- String.charAt
theorem b283_0 (d : Nat) (μ : jM) (a : Nat) (i1 : Int32) : jR (d + 1) 283 0 [.ref a, .int i1] [] μ = (if jrecv μ 0 (.ref a) = true then (jC d 284 [.ref a] μ).bind fun p1 => jR (d + 1) 283 4 [.ref a, .int i1] (p1.1.toList ++ []) p1.2 else none) :=
  (l_aload_n (show gPG 283 0 = some (.aload_n 0) by decide +kernel) rfl jr_ref).trans <|
  l_callV (u := 1) (v := .ref a) (as := []) (show gPG 283 1 = some (jinvI 1 492) by decide +kernel) (by decide) (cc := 284) (na := 1) (kd := 0) (q4 := 0) (z := 10) (rest := []) (by decide +kernel) (by decide +kernel)  rfl (show (1 : Nat) ≤ 1 by decide) rfl cs0 (by decide +kernel) (cav jr_ref ca0)
theorem b283_4 (d : Nat) (μ : jM) (a : Nat) (i1 : Int32) (s0 : Int32) : jR (d + 1) 283 4 [.ref a, .int i1] [.int s0] μ = (if s0 = 0 then (jgR μ 0 0 (.ref a)).bind fun w1 => jR (d + 1) 283 21 [.ref a, .int i1] [.int i1, w1] μ else (jgR μ 0 0 (.ref a)).bind fun w2 => (jC d 298 [w2, .int i1] μ).bind fun p3 => jR (d + 1) 283 15 [.ref a, .int i1] (p3.1.toList ++ []) p3.2) :=
  (l_cmp0 (show gPG 283 4 = some (.ifCond .eq 12) by decide +kernel) (t := 16) (by decide +kernel)).trans <| jm_eq.trans <| ite_cg (
  (l_aload_n (show gPG 283 16 = some (.aload_n 0) by decide +kernel) rfl jr_ref).trans <|
  (l_gR (show gPG 283 17 = some (.getfield 9) by decide +kernel) (kd := 0) (sl := 0) (tc := 1) (fin := 1) (z := 0) (by decide +kernel) (by decide +kernel) (by decide +kernel)).trans <| bd_cg fun w1 hw1 =>
  l_iload_n (show gPG 283 20 = some (.iload_n 1) by decide +kernel) rfl) (
  (l_aload_n (show gPG 283 7 = some (.aload_n 0) by decide +kernel) rfl jr_ref).trans <|
  (l_gR (show gPG 283 8 = some (.getfield 9) by decide +kernel) (kd := 0) (sl := 0) (tc := 1) (fin := 1) (z := 0) (by decide +kernel) (by decide +kernel) (by decide +kernel)).trans <| bd_cg fun w2 hw2 =>
  (l_iload_n (show gPG 283 11 = some (.iload_n 1) by decide +kernel) rfl).trans <|
  l_callS (u := 2) (as := [w2, .int i1]) (show gPG 283 12 = some (jinvI 2 495) by decide +kernel) (by decide) (cc := 298) (na := 2) (q4 := 0) (z := 12) (rest := []) (by decide +kernel) (by decide +kernel)  rfl (show (2 : Nat) ≤ 2 by decide) rfl cs0 (by decide +kernel) (cai (cav (jr_gR hw2) ca0)) (fun e => absurd e (by decide)))
theorem b283_15 (d : Nat) (μ : jM) (u0 : Value) (u1 : Value) (s0 : Int32) : jR d 283 15 [u0, u1] [.int s0] μ = (if jrf 6 s0 = true then some (some (.int s0), μ) else none) :=
  l_iret (show gPG 283 15 = some (.ireturn) by decide +kernel) (rc := 6) (by decide +kernel)
-- String.isLatin1
theorem b284_0 (d : Nat) (μ : jM) (a : Nat) (hx : jX μ) : jR d 284 0 [.ref a] [] μ = (if 1 = 0 then jR d 284 17 [.ref a] [] μ else (jgI μ 0 1 (.ref a)).bind fun x1 => (if x1 = 0 then jR d 284 18 [.ref a] [.int 1] μ else jR d 284 17 [.ref a] [] μ)) :=
  (l_getsI (show gPG 284 0 = some (.getstatic 38) by decide +kernel) (j := 0) (c := 1) (by decide +kernel) (by decide +kernel) hx.1).trans <|
  (l_cmp0 (show gPG 284 3 = some (.ifCond .eq 14) by decide +kernel) (t := 17) (by decide +kernel)).trans <| jm_eq.trans <| ite_cg (
  rfl) (
  (l_aload_n (show gPG 284 6 = some (.aload_n 0) by decide +kernel) rfl jr_ref).trans <|
  (l_gI (show gPG 284 7 = some (.getfield 15) by decide +kernel) (kd := 0) (sl := 1) (tc := 3) (fin := 1) (z := 0) (by decide +kernel) (by decide +kernel) (by decide +kernel)).trans <| bd_cg fun x1 hx1 =>
  (l_cmp0 (show gPG 284 10 = some (.ifCond .ne 7) by decide +kernel) (t := 17) (by decide +kernel)).trans <| jm_ne.trans <| ite_cg (
  (l_iconst (show gPG 284 13 = some (.iconst 1) by decide +kernel) (c := 1) (by decide +kernel)).trans <|
  l_goto (show gPG 284 14 = some (.goto 4) by decide +kernel) (t := 18) (by decide +kernel)) (
  rfl))
theorem b284_17 (d : Nat) (μ : jM) (u0 : Value) : jR d 284 17 [u0] [] μ = jR d 284 18 [u0] [.int 0] μ :=
  l_iconst (show gPG 284 17 = some (.iconst 0) by decide +kernel) (c := 0) (by decide +kernel)
theorem b284_18 (d : Nat) (μ : jM) (u0 : Value) (s0 : Int32) : jR d 284 18 [u0] [.int s0] μ = (if jrf 4 s0 = true then some (some (.int s0), μ) else none) :=
  l_iret (show gPG 284 18 = some (.ireturn) by decide +kernel) (rc := 4) (by decide +kernel)
-- String.checkIndex
theorem b285_0 (d : Nat) (μ : jM) (i0 : Int32) (i1 : Int32) (hx : jX μ) : jR (d + 1) 285 0 [.int i0, .int i1] [] μ = (jC d 312 [.int i0, .int i1, (jext μ 1)] μ).bind fun p1 => jR (d + 1) 285 8 [.int i0, .int i1] (p1.1.toList ++ []) p1.2 :=
  (l_iload_n (show gPG 285 0 = some (.iload_n 0) by decide +kernel) rfl).trans <|
  (l_iload_n (show gPG 285 1 = some (.iload_n 1) by decide +kernel) rfl).trans <|
  (l_gets (show gPG 285 2 = some (.getstatic 1053) by decide +kernel) (j := 1) (by decide +kernel) (by decide +kernel)).trans <|
  l_callS (u := 2) (as := [.int i0, .int i1, (jext μ 1)]) (show gPG 285 5 = some (jinvI 2 1059) by decide +kernel) (by decide) (cc := 312) (na := 3) (q4 := 0) (z := 12) (rest := []) (by decide +kernel) (by decide +kernel)  rfl (show (3 : Nat) ≤ 3 by decide) rfl cs0 (by decide +kernel) (cav (hx.2 1 (by decide) (by decide)) (cai (cai ca0))) (fun e => absurd e (by decide))
theorem b285_8 (d : Nat) (μ : jM) (u0 : Value) (u1 : Value) (s0 : Int32) : jR d 285 8 [u0, u1] [.int s0] μ = some (none, μ) :=
  (l_pop (show gPG 285 8 = some (.pop) by decide +kernel) rfl).trans <|
  l_ret (show gPG 285 9 = some (.return_) by decide +kernel) (by decide +kernel)
-- String.getBytes
theorem b286_0 (d : Nat) (μ : jM) (a : Nat) (r1 : Value) (i2 : Int32) (i3 : Int32) (h1 : jisref r1 = true) : jR (d + 1) 286 0 [.ref a, r1, .int i2, .int i3] [] μ = (if jrecv μ 0 (.ref a) = true then (jC d 282 [.ref a] μ).bind fun p1 => jR (d + 1) 286 4 [.ref a, r1, .int i2, .int i3] (p1.1.toList ++ []) p1.2 else none) :=
  (l_aload_n (show gPG 286 0 = some (.aload_n 0) by decide +kernel) rfl jr_ref).trans <|
  l_callV (u := 1) (v := .ref a) (as := []) (show gPG 286 1 = some (jinvI 1 335) by decide +kernel) (by decide) (cc := 282) (na := 1) (kd := 0) (q4 := 0) (z := 10) (rest := []) (by decide +kernel) (by decide +kernel)  rfl (show (1 : Nat) ≤ 1 by decide) rfl cs0 (by decide +kernel) (cav jr_ref ca0)
theorem b286_4 (d : Nat) (μ : jM) (a : Nat) (r1 : Value) (i2 : Int32) (i3 : Int32) (s0 : Int32) (h1 : jisref r1 = true) : jR (d + 1) 286 4 [.ref a, r1, .int i2, .int i3] [.int s0] μ = (if s0 = i3 then (jgR μ 0 0 (.ref a)).bind fun w5 => (jgR μ 0 0 (.ref a)).bind fun w6 => (jal μ w6).bind fun x7 => (jcp μ w5 0 r1 (i2 <<< (i3 &&& 31)) x7).bind fun m8 => jR (d + 1) 286 43 [.ref a, r1, .int i2, .int i3] [] m8 else (jgR μ 0 0 (.ref a)).bind fun w1 => (jgR μ 0 0 (.ref a)).bind fun w2 => (jal μ w2).bind fun x3 => (jC d 300 [w1, .int 0, r1, .int i2, .int x3] μ).bind fun p4 => jR (d + 1) 286 43 [.ref a, r1, .int i2, .int i3] (p4.1.toList ++ []) p4.2) :=
  (l_iload_n (show gPG 286 4 = some (.iload_n 3) by decide +kernel) rfl).trans <|
  (l_cmp (show gPG 286 5 = some (.if_icmp .ne 23) by decide +kernel) (t := 28) (by decide +kernel)).trans <| jm_ne.trans <| ite_cg (
  (l_aload_n (show gPG 286 8 = some (.aload_n 0) by decide +kernel) rfl jr_ref).trans <|
  (l_gR (show gPG 286 9 = some (.getfield 9) by decide +kernel) (kd := 0) (sl := 0) (tc := 1) (fin := 1) (z := 0) (by decide +kernel) (by decide +kernel) (by decide +kernel)).trans <| bd_cg fun w5 hw5 =>
  (l_iconst (show gPG 286 12 = some (.iconst 0) by decide +kernel) (c := 0) (by decide +kernel)).trans <|
  (l_aload_n (show gPG 286 13 = some (.aload_n 1) by decide +kernel) rfl h1).trans <|
  (l_iload_n (show gPG 286 14 = some (.iload_n 2) by decide +kernel) rfl).trans <|
  (l_iload_n (show gPG 286 15 = some (.iload_n 3) by decide +kernel) rfl).trans <|
  (l_ishl (show gPG 286 16 = some (.ishl) by decide +kernel) ).trans <|
  (l_aload_n (show gPG 286 17 = some (.aload_n 0) by decide +kernel) rfl jr_ref).trans <|
  (l_gR (show gPG 286 18 = some (.getfield 9) by decide +kernel) (kd := 0) (sl := 0) (tc := 1) (fin := 1) (z := 0) (by decide +kernel) (by decide +kernel) (by decide +kernel)).trans <| bd_cg fun w6 hw6 =>
  (l_alen (show gPG 286 21 = some (.arraylength) by decide +kernel) ).trans <| bd_cg fun x7 hx7 =>
  (l_acp (show gPG 286 22 = some (.invokestatic 212) by decide +kernel) (q3 := 99) (q4 := 0) (z := 19) (by decide +kernel) (by decide +kernel) (jr_gR hw5) h1 cs0 (by decide +kernel)).trans <| bd_cg fun m8 hm8 =>
  l_goto (show gPG 286 25 = some (.goto 18) by decide +kernel) (t := 43) (by decide +kernel)) (
  (l_aload_n (show gPG 286 28 = some (.aload_n 0) by decide +kernel) rfl jr_ref).trans <|
  (l_gR (show gPG 286 29 = some (.getfield 9) by decide +kernel) (kd := 0) (sl := 0) (tc := 1) (fin := 1) (z := 0) (by decide +kernel) (by decide +kernel) (by decide +kernel)).trans <| bd_cg fun w1 hw1 =>
  (l_iconst (show gPG 286 32 = some (.iconst 0) by decide +kernel) (c := 0) (by decide +kernel)).trans <|
  (l_aload_n (show gPG 286 33 = some (.aload_n 1) by decide +kernel) rfl h1).trans <|
  (l_iload_n (show gPG 286 34 = some (.iload_n 2) by decide +kernel) rfl).trans <|
  (l_aload_n (show gPG 286 35 = some (.aload_n 0) by decide +kernel) rfl jr_ref).trans <|
  (l_gR (show gPG 286 36 = some (.getfield 9) by decide +kernel) (kd := 0) (sl := 0) (tc := 1) (fin := 1) (z := 0) (by decide +kernel) (by decide +kernel) (by decide +kernel)).trans <| bd_cg fun w2 hw2 =>
  (l_alen (show gPG 286 39 = some (.arraylength) by decide +kernel) ).trans <| bd_cg fun x3 hx3 =>
  l_callS (u := 2) (as := [w1, .int 0, r1, .int i2, .int x3]) (show gPG 286 40 = some (jinvI 2 106) by decide +kernel) (by decide) (cc := 300) (na := 5) (q4 := 0) (z := 12) (rest := []) (by decide +kernel) (by decide +kernel)  rfl (show (5 : Nat) ≤ 5 by decide) rfl cs0 (by decide +kernel) (cai (cai (cav h1 (cai (cav (jr_gR hw1) ca0))))) (fun e => absurd e (by decide)))
theorem b286_43 (d : Nat) (μ : jM) (u0 : Value) (u1 : Value) (u2 : Value) (u3 : Value) : jR d 286 43 [u0, u1, u2, u3] [] μ = some (none, μ) :=
  l_ret (show gPG 286 43 = some (.return_) by decide +kernel) (by decide +kernel)
-- String.indexOf/I
theorem b287_0 (d : Nat) (μ : jM) (a : Nat) (i1 : Int32) : jR (d + 1) 287 0 [.ref a, .int i1] [] μ = (if jrecv μ 0 (.ref a) = true then (jC d 288 [.ref a, .int i1, .int 0] μ).bind fun p1 => jR (d + 1) 287 6 [.ref a, .int i1] (p1.1.toList ++ []) p1.2 else none) :=
  (l_aload_n (show gPG 287 0 = some (.aload_n 0) by decide +kernel) rfl jr_ref).trans <|
  (l_iload_n (show gPG 287 1 = some (.iload_n 1) by decide +kernel) rfl).trans <|
  (l_iconst (show gPG 287 2 = some (.iconst 0) by decide +kernel) (c := 0) (by decide +kernel)).trans <|
  l_callV (u := 1) (v := .ref a) (as := [.int i1, .int 0]) (show gPG 287 3 = some (jinvI 1 633) by decide +kernel) (by decide) (cc := 288) (na := 3) (kd := 0) (q4 := 0) (z := 10) (rest := []) (by decide +kernel) (by decide +kernel)  rfl (show (3 : Nat) ≤ 3 by decide) rfl cs0 (by decide +kernel) (cai (cai (cav jr_ref ca0)))
theorem b287_6 (d : Nat) (μ : jM) (u0 : Value) (u1 : Value) (s0 : Int32) : jR d 287 6 [u0, u1] [.int s0] μ = some (some (.int s0), μ) :=
  l_iret1 (show gPG 287 6 = some (.ireturn) by decide +kernel) (by decide +kernel)
-- String.indexOf/II
theorem b288_0 (d : Nat) (μ : jM) (a : Nat) (i1 : Int32) (i2 : Int32) : jR (d + 1) 288 0 [.ref a, .int i1, .int i2] [] μ = (if jrecv μ 0 (.ref a) = true then (jC d 284 [.ref a] μ).bind fun p1 => jR (d + 1) 288 4 [.ref a, .int i1, .int i2] (p1.1.toList ++ []) p1.2 else none) :=
  (l_aload_n (show gPG 288 0 = some (.aload_n 0) by decide +kernel) rfl jr_ref).trans <|
  l_callV (u := 1) (v := .ref a) (as := []) (show gPG 288 1 = some (jinvI 1 492) by decide +kernel) (by decide) (cc := 284) (na := 1) (kd := 0) (q4 := 0) (z := 10) (rest := []) (by decide +kernel) (by decide +kernel)  rfl (show (1 : Nat) ≤ 1 by decide) rfl cs0 (by decide +kernel) (cav jr_ref ca0)
theorem b288_4 (d : Nat) (μ : jM) (a : Nat) (i1 : Int32) (i2 : Int32) (s0 : Int32) : jR (d + 1) 288 4 [.ref a, .int i1, .int i2] [.int s0] μ = (if s0 = 0 then (jgR μ 0 0 (.ref a)).bind fun w1 => (if jrecv μ 0 (.ref a) = true then (jC d 281 [.ref a] μ).bind fun p2 => jR (d + 1) 288 33 [.ref a, .int i1, .int i2] (p2.1.toList ++ [.int i2, .int i1, w1]) p2.2 else none) else (jgR μ 0 0 (.ref a)).bind fun w3 => (if jrecv μ 0 (.ref a) = true then (jC d 281 [.ref a] μ).bind fun p4 => jR (d + 1) 288 17 [.ref a, .int i1, .int i2] (p4.1.toList ++ [.int i2, .int i1, w3]) p4.2 else none)) :=
  (l_cmp0 (show gPG 288 4 = some (.ifCond .eq 19) by decide +kernel) (t := 23) (by decide +kernel)).trans <| jm_eq.trans <| ite_cg (
  (l_aload_n (show gPG 288 23 = some (.aload_n 0) by decide +kernel) rfl jr_ref).trans <|
  (l_gR (show gPG 288 24 = some (.getfield 9) by decide +kernel) (kd := 0) (sl := 0) (tc := 1) (fin := 1) (z := 0) (by decide +kernel) (by decide +kernel) (by decide +kernel)).trans <| bd_cg fun w1 hw1 =>
  (l_iload_n (show gPG 288 27 = some (.iload_n 1) by decide +kernel) rfl).trans <|
  (l_iload_n (show gPG 288 28 = some (.iload_n 2) by decide +kernel) rfl).trans <|
  (l_aload_n (show gPG 288 29 = some (.aload_n 0) by decide +kernel) rfl jr_ref).trans <|
  l_callV (u := 1) (v := .ref a) (as := []) (show gPG 288 30 = some (jinvI 1 505) by decide +kernel) (by decide) (cc := 281) (na := 1) (kd := 0) (q4 := 0) (z := 10) (rest := [.int i2, .int i1, w1]) (by decide +kernel) (by decide +kernel)  rfl (show (1 : Nat) ≤ 4 by decide) rfl (csi (csi (csv (jr_gR hw1) cs0))) (by decide +kernel) (cav jr_ref ca0)) (
  (l_aload_n (show gPG 288 7 = some (.aload_n 0) by decide +kernel) rfl jr_ref).trans <|
  (l_gR (show gPG 288 8 = some (.getfield 9) by decide +kernel) (kd := 0) (sl := 0) (tc := 1) (fin := 1) (z := 0) (by decide +kernel) (by decide +kernel) (by decide +kernel)).trans <| bd_cg fun w3 hw3 =>
  (l_iload_n (show gPG 288 11 = some (.iload_n 1) by decide +kernel) rfl).trans <|
  (l_iload_n (show gPG 288 12 = some (.iload_n 2) by decide +kernel) rfl).trans <|
  (l_aload_n (show gPG 288 13 = some (.aload_n 0) by decide +kernel) rfl jr_ref).trans <|
  l_callV (u := 1) (v := .ref a) (as := []) (show gPG 288 14 = some (jinvI 1 505) by decide +kernel) (by decide) (cc := 281) (na := 1) (kd := 0) (q4 := 0) (z := 10) (rest := [.int i2, .int i1, w3]) (by decide +kernel) (by decide +kernel)  rfl (show (1 : Nat) ≤ 4 by decide) rfl (csi (csi (csv (jr_gR hw3) cs0))) (by decide +kernel) (cav jr_ref ca0))
theorem b288_17 (d : Nat) (μ : jM) (u0 : Value) (u1 : Value) (u2 : Value) (s0 : Value) (s1 : Int32) (s2 : Int32) (s3 : Int32) (hs0 : jisref s0 = true) : jR (d + 1) 288 17 [u0, u1, u2] [.int s3, .int s2, .int s1, s0] μ = (jC d 301 [s0, .int s1, .int s2, .int s3] μ).bind fun p1 => jR (d + 1) 288 20 [u0, u1, u2] (p1.1.toList ++ []) p1.2 :=
  l_callS (u := 2) (as := [s0, .int s1, .int s2, .int s3]) (show gPG 288 17 = some (jinvI 2 637) by decide +kernel) (by decide) (cc := 301) (na := 4) (q4 := 0) (z := 12) (rest := []) (by decide +kernel) (by decide +kernel)  rfl (show (4 : Nat) ≤ 4 by decide) rfl cs0 (by decide +kernel) (cai (cai (cai (cav hs0 ca0)))) (fun e => absurd e (by decide))
theorem b288_20 (d : Nat) (μ : jM) (u0 : Value) (u1 : Value) (u2 : Value) (s0 : Int32) : jR d 288 20 [u0, u1, u2] [.int s0] μ = jR d 288 36 [u0, u1, u2] [.int s0] μ :=
  l_goto (show gPG 288 20 = some (.goto 16) by decide +kernel) (t := 36) (by decide +kernel)
theorem b288_33 (d : Nat) (μ : jM) (u0 : Value) (u1 : Value) (u2 : Value) (s0 : Value) (s1 : Int32) (s2 : Int32) (s3 : Int32) (hs0 : jisref s0 = true) : jR d 288 33 [u0, u1, u2] [.int s3, .int s2, .int s1, s0] μ = jR d 288 33 [u0, u1, u2] [.int s3, .int s2, .int s1, s0] μ :=
  rfl
theorem b288_36 (d : Nat) (μ : jM) (u0 : Value) (u1 : Value) (u2 : Value) (s0 : Int32) : jR d 288 36 [u0, u1, u2] [.int s0] μ = some (some (.int s0), μ) :=
  l_iret1 (show gPG 288 36 = some (.ireturn) by decide +kernel) (by decide +kernel)
-- String.init/LStringBuilder;
theorem b289_0 (d : Nat) (μ : jM) (a : Nat) (r1 : Value) (h1 : jisref r1 = true) : jR (d + 1) 289 0 [.ref a, r1] [] μ = (jC d 290 [.ref a, r1, .null] μ).bind fun p1 => jR (d + 1) 289 6 [.ref a, r1] (p1.1.toList ++ []) p1.2 :=
  (l_aload_n (show gPG 289 0 = some (.aload_n 0) by decide +kernel) rfl jr_ref).trans <|
  (l_aload_n (show gPG 289 1 = some (.aload_n 1) by decide +kernel) rfl h1).trans <|
  (l_anull (show gPG 289 2 = some (.aconst_null) by decide +kernel) ).trans <|
  l_callS (u := 3) (as := [.ref a, r1, .null]) (show gPG 289 3 = some (jinvI 3 489) by decide +kernel) (by decide) (cc := 290) (na := 3) (q4 := 0) (z := 14) (rest := []) (by decide +kernel) (by decide +kernel)  rfl (show (3 : Nat) ≤ 3 by decide) rfl cs0 (by decide +kernel) (cav jr_null (cav h1 (cav jr_ref ca0))) (fun _ => ⟨_, _, rfl⟩)
theorem b289_6 (d : Nat) (μ : jM) (u0 : Value) (u1 : Value) : jR d 289 6 [u0, u1] [] μ = some (none, μ) :=
  l_ret (show gPG 289 6 = some (.return_) by decide +kernel) (by decide +kernel)
-- String.init/LAbstractStringBuilder;LVoid;
theorem b290_0 (d : Nat) (μ : jM) (a : Nat) (r1 : Value) (u2 : Value) (h1 : jisref r1 = true) : jR (d + 1) 290 0 [.ref a, r1, u2, .retAddr 0, .retAddr 0] [] μ = (if jrecv μ 1 r1 = true then (jC d 276 [r1] μ).bind fun p1 => jR (d + 1) 290 8 [.ref a, r1, u2, .retAddr 0, .retAddr 0] (p1.1.toList ++ []) p1.2 else none) :=
  (l_aload_n (show gPG 290 0 = some (.aload_n 0) by decide +kernel) rfl jr_ref).trans <|
  (l_obj (u := 3) (show gPG 290 1 = some (jinvI 3 1) by decide +kernel) (by decide) (q2 := 99) (q3 := 0) (z := 18) (by decide +kernel) (by decide +kernel) cs0 (by decide +kernel)).trans <|
  (l_aload_n (show gPG 290 4 = some (.aload_n 1) by decide +kernel) rfl h1).trans <|
  l_callV (u := 1) (v := r1) (as := []) (show gPG 290 5 = some (jinvI 1 552) by decide +kernel) (by decide) (cc := 276) (na := 1) (kd := 1) (q4 := 0) (z := 17) (rest := []) (by decide +kernel) (by decide +kernel)  rfl (show (1 : Nat) ≤ 1 by decide) rfl cs0 (by decide +kernel) (cav h1 ca0)
theorem b290_8 (d : Nat) (μ : jM) (a : Nat) (r1 : Value) (u2 : Value) (u3 : Value) (u4 : Value) (s0 : Value) (h1 : jisref r1 = true) (hs0 : jisref s0 = true) : jR (d + 1) 290 8 [.ref a, r1, u2, u3, u4] [s0] μ = (if jrecv μ 1 r1 = true then (jC d 295 [r1] μ).bind fun p1 => jR (d + 1) 290 13 [.ref a, r1, u2, s0, u4] (p1.1.toList ++ []) p1.2 else none) :=
  (l_astore_n (show gPG 290 8 = some (.astore_n 3) by decide +kernel) (ls := [.ref a, r1, u2, u3, u4]) hs0 (show (3 : Nat) < 5 by decide) (show _ = ([.ref a, r1, u2, s0, u4] : List Value) from rfl)).trans <|
  (l_aload_n (show gPG 290 9 = some (.aload_n 1) by decide +kernel) rfl h1).trans <|
  l_callV (u := 1) (v := r1) (as := []) (show gPG 290 10 = some (jinvI 1 549) by decide +kernel) (by decide) (cc := 295) (na := 1) (kd := 1) (q4 := 0) (z := 17) (rest := []) (by decide +kernel) (by decide +kernel)  rfl (show (1 : Nat) ≤ 1 by decide) rfl cs0 (by decide +kernel) (cav h1 ca0)
theorem b290_13 (d : Nat) (μ : jM) (a : Nat) (r1 : Value) (u2 : Value) (r3 : Value) (u4 : Value) (s0 : Int32) (h1 : jisref r1 = true) (h3 : jisref r3 = true) : jR (d + 1) 290 13 [.ref a, r1, u2, r3, u4] [.int s0] μ = (if jrecv μ 1 r1 = true then (jC d 269 [r1] μ).bind fun p1 => jR (d + 1) 290 19 [.ref a, r1, u2, r3, .int s0] (p1.1.toList ++ []) p1.2 else none) :=
  (l_istore (show gPG 290 13 = some (.istore 4) by decide +kernel) (ls := [.ref a, r1, u2, r3, u4]) (show (4 : Nat) < 5 by decide) (show _ = ([.ref a, r1, u2, r3, .int s0] : List Value) from rfl)).trans <|
  (l_aload_n (show gPG 290 15 = some (.aload_n 1) by decide +kernel) rfl h1).trans <|
  l_callV (u := 1) (v := r1) (as := []) (show gPG 290 16 = some (jinvI 1 1047) by decide +kernel) (by decide) (cc := 269) (na := 1) (kd := 1) (q4 := 0) (z := 17) (rest := []) (by decide +kernel) (by decide +kernel)  rfl (show (1 : Nat) ≤ 1 by decide) rfl cs0 (by decide +kernel) (cav h1 ca0)
theorem b290_19 (d : Nat) (μ : jM) (a : Nat) (r1 : Value) (u2 : Value) (r3 : Value) (i4 : Int32) (s0 : Int32) (h1 : jisref r1 = true) (h3 : jisref r3 = true) (hx : jX μ) : jR (d + 1) 290 19 [.ref a, r1, u2, r3, .int i4] [.int s0] μ = (if s0 = 0 then (if 1 = 0 then jR (d + 1) 290 79 [.ref a, r1, u2, r3, .int i4] [] μ else (jgI μ 1 2 r1).bind fun x1 => (if x1 = 0 then jR (d + 1) 290 79 [.ref a, r1, u2, r3, .int i4] [] μ else jR (d + 1) 290 59 [.ref a, r1, u2, r3, .int i4] [.int i4, .int 0, r3, .ref a] μ)) else (jpI μ 0 1 3 (.ref a) 0).bind fun m2 => (jC d 307 [r3, .int 0, .int i4] m2).bind fun p3 => jR (d + 1) 290 35 [.ref a, r1, u2, r3, .int i4] (p3.1.toList ++ [.ref a]) p3.2) :=
  (l_cmp0 (show gPG 290 19 = some (.ifCond .eq 22) by decide +kernel) (t := 41) (by decide +kernel)).trans <| jm_eq.trans <| ite_cg (
  (l_getsI (show gPG 290 41 = some (.getstatic 38) by decide +kernel) (j := 0) (c := 1) (by decide +kernel) (by decide +kernel) hx.1).trans <|
  (l_cmp0 (show gPG 290 44 = some (.ifCond .eq 35) by decide +kernel) (t := 79) (by decide +kernel)).trans <| jm_eq.trans <| ite_cg (
  rfl) (
  (l_aload_n (show gPG 290 47 = some (.aload_n 1) by decide +kernel) rfl h1).trans <|
  (l_gI (show gPG 290 48 = some (.getfield 1048) by decide +kernel) (kd := 1) (sl := 2) (tc := 2) (fin := 0) (z := 0) (by decide +kernel) (by decide +kernel) (by decide +kernel)).trans <| bd_cg fun x1 hx1 =>
  (l_cmp0 (show gPG 290 51 = some (.ifCond .eq 28) by decide +kernel) (t := 79) (by decide +kernel)).trans <| jm_eq.trans <| ite_cg (
  rfl) (
  (l_aload_n (show gPG 290 54 = some (.aload_n 0) by decide +kernel) rfl jr_ref).trans <|
  (l_aload_n (show gPG 290 55 = some (.aload_n 3) by decide +kernel) rfl h3).trans <|
  (l_iconst (show gPG 290 56 = some (.iconst 0) by decide +kernel) (c := 0) (by decide +kernel)).trans <|
  l_iload (show gPG 290 57 = some (.iload 4) by decide +kernel) rfl))) (
  (l_aload_n (show gPG 290 22 = some (.aload_n 0) by decide +kernel) rfl jr_ref).trans <|
  (l_iconst (show gPG 290 23 = some (.iconst 0) by decide +kernel) (c := 0) (by decide +kernel)).trans <|
  (l_pI (show gPG 290 24 = some (.putfield 15) by decide +kernel) (kd := 0) (sl := 1) (tc := 3) (fin := 1) (z := 0) (by decide +kernel) (by decide +kernel) (by decide +kernel)).trans <| bd_cg fun m2 hm2 =>
  (l_aload_n (show gPG 290 27 = some (.aload_n 0) by decide +kernel) rfl jr_ref).trans <|
  (l_aload_n (show gPG 290 28 = some (.aload_n 3) by decide +kernel) rfl h3).trans <|
  (l_iconst (show gPG 290 29 = some (.iconst 0) by decide +kernel) (c := 0) (by decide +kernel)).trans <|
  (l_iload (show gPG 290 30 = some (.iload 4) by decide +kernel) rfl).trans <|
  l_callS (u := 2) (as := [r3, .int 0, .int i4]) (show gPG 290 32 = some (jinvI 2 54) by decide +kernel) (by decide) (cc := 307) (na := 3) (q4 := 0) (z := 12) (rest := [.ref a]) (by decide +kernel) (by decide +kernel)  rfl (show (3 : Nat) ≤ 4 by decide) rfl (csv jr_ref cs0) (by decide +kernel) (cai (cai (cav h3 ca0))) (fun e => absurd e (by decide)))
theorem b290_35 (d : Nat) (μ : jM) (u0 : Value) (u1 : Value) (u2 : Value) (u3 : Value) (u4 : Value) (s0 : Value) (s1 : Value) (hs0 : jisref s0 = true) (hs1 : jisref s1 = true) : jR d 290 35 [u0, u1, u2, u3, u4] [s1, s0] μ = (jpR μ 0 0 s0 s1).bind fun m1 => jR d 290 97 [u0, u1, u2, u3, u4] [] m1 :=
  (l_pR (show gPG 290 35 = some (.putfield 9) by decide +kernel) (kd := 0) (sl := 0) (tc := 1) (fin := 1) (z := 0) (by decide +kernel) (by decide +kernel) (by decide +kernel) hs1).trans <| bd_cg fun m1 hm1 =>
  l_goto (show gPG 290 38 = some (.goto 59) by decide +kernel) (t := 97) (by decide +kernel)
theorem b290_79 (d : Nat) (μ : jM) (a : Nat) (u1 : Value) (u2 : Value) (r3 : Value) (i4 : Int32) (h3 : jisref r3 = true) : jR (d + 1) 290 79 [.ref a, u1, u2, r3, .int i4] [] μ = (jpI μ 0 1 3 (.ref a) 1).bind fun m1 => (jC d 307 [r3, .int 0, .int (i4 <<< (1 &&& 31))] m1).bind fun p2 => jR (d + 1) 290 94 [.ref a, u1, u2, r3, .int i4] (p2.1.toList ++ [.ref a]) p2.2 :=
  (l_aload_n (show gPG 290 79 = some (.aload_n 0) by decide +kernel) rfl jr_ref).trans <|
  (l_iconst (show gPG 290 80 = some (.iconst 1) by decide +kernel) (c := 1) (by decide +kernel)).trans <|
  (l_pI (show gPG 290 81 = some (.putfield 15) by decide +kernel) (kd := 0) (sl := 1) (tc := 3) (fin := 1) (z := 0) (by decide +kernel) (by decide +kernel) (by decide +kernel)).trans <| bd_cg fun m1 hm1 =>
  (l_aload_n (show gPG 290 84 = some (.aload_n 0) by decide +kernel) rfl jr_ref).trans <|
  (l_aload_n (show gPG 290 85 = some (.aload_n 3) by decide +kernel) rfl h3).trans <|
  (l_iconst (show gPG 290 86 = some (.iconst 0) by decide +kernel) (c := 0) (by decide +kernel)).trans <|
  (l_iload (show gPG 290 87 = some (.iload 4) by decide +kernel) rfl).trans <|
  (l_iconst (show gPG 290 89 = some (.iconst 1) by decide +kernel) (c := 1) (by decide +kernel)).trans <|
  (l_ishl (show gPG 290 90 = some (.ishl) by decide +kernel) ).trans <|
  l_callS (u := 2) (as := [r3, .int 0, .int (i4 <<< (1 &&& 31))]) (show gPG 290 91 = some (jinvI 2 54) by decide +kernel) (by decide) (cc := 307) (na := 3) (q4 := 0) (z := 12) (rest := [.ref a]) (by decide +kernel) (by decide +kernel)  rfl (show (3 : Nat) ≤ 4 by decide) rfl (csv jr_ref cs0) (by decide +kernel) (cai (cai (cav h3 ca0))) (fun e => absurd e (by decide))
theorem b290_94 (d : Nat) (μ : jM) (u0 : Value) (u1 : Value) (u2 : Value) (u3 : Value) (u4 : Value) (s0 : Value) (s1 : Value) (hs0 : jisref s0 = true) (hs1 : jisref s1 = true) : jR d 290 94 [u0, u1, u2, u3, u4] [s1, s0] μ = (jpR μ 0 0 s0 s1).bind fun m1 => jR d 290 97 [u0, u1, u2, u3, u4] [] m1 :=
  (l_pR (show gPG 290 94 = some (.putfield 9) by decide +kernel) (kd := 0) (sl := 0) (tc := 1) (fin := 1) (z := 0) (by decide +kernel) (by decide +kernel) (by decide +kernel) hs1).trans <| bd_cg fun m1 hm1 =>
  rfl
theorem b290_97 (d : Nat) (μ : jM) (u0 : Value) (u1 : Value) (u2 : Value) (u3 : Value) (u4 : Value) : jR d 290 97 [u0, u1, u2, u3, u4] [] μ = some (none, μ) :=
  l_ret (show gPG 290 97 = some (.return_) by decide +kernel) (by decide +kernel)
-- StringBuilder.init
theorem b291_0 (d : Nat) (μ : jM) (a : Nat) : jR (d + 1) 291 0 [.ref a] [] μ = (jC d 265 [.ref a, .int 16] μ).bind fun p1 => jR (d + 1) 291 6 [.ref a] (p1.1.toList ++ []) p1.2 :=
  (l_aload_n (show gPG 291 0 = some (.aload_n 0) by decide +kernel) rfl jr_ref).trans <|
  (l_bipush (show gPG 291 1 = some (.bipush 16) by decide +kernel) (c := 16) (by decide +kernel)).trans <|
  l_callS (u := 3) (as := [.ref a, .int 16]) (show gPG 291 3 = some (jinvI 3 1) by decide +kernel) (by decide) (cc := 265) (na := 2) (q4 := 0) (z := 14) (rest := []) (by decide +kernel) (by decide +kernel)  rfl (show (2 : Nat) ≤ 2 by decide) rfl cs0 (by decide +kernel) (cai (cav jr_ref ca0)) (fun _ => ⟨_, _, rfl⟩)
theorem b291_6 (d : Nat) (μ : jM) (u0 : Value) : jR d 291 6 [u0] [] μ = some (none, μ) :=
  l_ret (show gPG 291 6 = some (.return_) by decide +kernel) (by decide +kernel)
-- StringBuilder.append/C
theorem b292_0 (d : Nat) (μ : jM) (a : Nat) (i1 : Int32) : jR (d + 1) 292 0 [.ref a, .int i1] [] μ = (if jrecv μ 1 (.ref a) = true then (jC d 266 [.ref a, .int i1] μ).bind fun p1 => jR (d + 1) 292 5 [.ref a, .int i1] (p1.1.toList ++ []) p1.2 else none) :=
  (l_aload_n (show gPG 292 0 = some (.aload_n 0) by decide +kernel) rfl jr_ref).trans <|
  (l_iload_n (show gPG 292 1 = some (.iload_n 1) by decide +kernel) rfl).trans <|
  l_callV (u := 3) (v := .ref a) (as := [.int i1]) (show gPG 292 2 = some (jinvI 3 50) by decide +kernel) (by decide) (cc := 266) (na := 2) (kd := 1) (q4 := 0) (z := 16) (rest := []) (by decide +kernel) (by decide +kernel)  rfl (show (2 : Nat) ≤ 2 by decide) rfl cs0 (by decide +kernel) (cai (cav jr_ref ca0))
theorem b292_5 (d : Nat) (μ : jM) (a : Nat) (u1 : Value) (s0 : Value) (hs0 : jisref s0 = true) : jR d 292 5 [.ref a, u1] [s0] μ = some (some (.ref a), μ) :=
  (l_pop (show gPG 292 5 = some (.pop) by decide +kernel) (jr_cat1 hs0)).trans <|
  (l_aload_n (show gPG 292 6 = some (.aload_n 0) by decide +kernel) rfl jr_ref).trans <|
  l_aret (show gPG 292 7 = some (.areturn) by decide +kernel) (by decide +kernel) jr_ref
-- StringBuilder.append/I
theorem b293_0 (d : Nat) (μ : jM) (a : Nat) (i1 : Int32) : jR (d + 1) 293 0 [.ref a, .int i1] [] μ = (if jrecv μ 1 (.ref a) = true then (jC d 270 [.ref a, .int i1] μ).bind fun p1 => jR (d + 1) 293 5 [.ref a, .int i1] (p1.1.toList ++ []) p1.2 else none) :=
  (l_aload_n (show gPG 293 0 = some (.aload_n 0) by decide +kernel) rfl jr_ref).trans <|
  (l_iload_n (show gPG 293 1 = some (.iload_n 1) by decide +kernel) rfl).trans <|
  l_callV (u := 3) (v := .ref a) (as := [.int i1]) (show gPG 293 2 = some (jinvI 3 53) by decide +kernel) (by decide) (cc := 270) (na := 2) (kd := 1) (q4 := 0) (z := 16) (rest := []) (by decide +kernel) (by decide +kernel)  rfl (show (2 : Nat) ≤ 2 by decide) rfl cs0 (by decide +kernel) (cai (cav jr_ref ca0))
theorem b293_5 (d : Nat) (μ : jM) (a : Nat) (u1 : Value) (s0 : Value) (hs0 : jisref s0 = true) : jR d 293 5 [.ref a, u1] [s0] μ = some (some (.ref a), μ) :=
  (l_pop (show gPG 293 5 = some (.pop) by decide +kernel) (jr_cat1 hs0)).trans <|
  (l_aload_n (show gPG 293 6 = some (.aload_n 0) by decide +kernel) rfl jr_ref).trans <|
  l_aret (show gPG 293 7 = some (.areturn) by decide +kernel) (by decide +kernel) jr_ref
-- StringBuilder.append/LString;
theorem b294_0 (d : Nat) (μ : jM) (a : Nat) (r1 : Value) (h1 : jisref r1 = true) : jR (d + 1) 294 0 [.ref a, r1] [] μ = (if jrecv μ 1 (.ref a) = true then (jC d 271 [.ref a, r1] μ).bind fun p1 => jR (d + 1) 294 5 [.ref a, r1] (p1.1.toList ++ []) p1.2 else none) :=
  (l_aload_n (show gPG 294 0 = some (.aload_n 0) by decide +kernel) rfl jr_ref).trans <|
  (l_aload_n (show gPG 294 1 = some (.aload_n 1) by decide +kernel) rfl h1).trans <|
  l_callV (u := 3) (v := .ref a) (as := [r1]) (show gPG 294 2 = some (jinvI 3 29) by decide +kernel) (by decide) (cc := 271) (na := 2) (kd := 1) (q4 := 0) (z := 16) (rest := []) (by decide +kernel) (by decide +kernel)  rfl (show (2 : Nat) ≤ 2 by decide) rfl cs0 (by decide +kernel) (cav h1 (cav jr_ref ca0))
theorem b294_5 (d : Nat) (μ : jM) (a : Nat) (u1 : Value) (s0 : Value) (hs0 : jisref s0 = true) : jR d 294 5 [.ref a, u1] [s0] μ = some (some (.ref a), μ) :=
  (l_pop (show gPG 294 5 = some (.pop) by decide +kernel) (jr_cat1 hs0)).trans <|
  (l_aload_n (show gPG 294 6 = some (.aload_n 0) by decide +kernel) rfl jr_ref).trans <|
  l_aret (show gPG 294 7 = some (.areturn) by decide +kernel) (by decide +kernel) jr_ref
-- StringBuilder.length
theorem b295_0 (d : Nat) (μ : jM) (a : Nat) : jR (d + 1) 295 0 [.ref a] [] μ = (if jrecv μ 1 (.ref a) = true then (jC d 274 [.ref a] μ).bind fun p1 => jR (d + 1) 295 4 [.ref a] (p1.1.toList ++ []) p1.2 else none) :=
  (l_aload_n (show gPG 295 0 = some (.aload_n 0) by decide +kernel) rfl jr_ref).trans <|
  l_callV (u := 3) (v := .ref a) (as := []) (show gPG 295 1 = some (jinvI 3 343) by decide +kernel) (by decide) (cc := 274) (na := 1) (kd := 1) (q4 := 0) (z := 16) (rest := []) (by decide +kernel) (by decide +kernel)  rfl (show (1 : Nat) ≤ 1 by decide) rfl cs0 (by decide +kernel) (cav jr_ref ca0)
theorem b295_4 (d : Nat) (μ : jM) (u0 : Value) (s0 : Int32) : jR d 295 4 [u0] [.int s0] μ = some (some (.int s0), μ) :=
  l_iret1 (show gPG 295 4 = some (.ireturn) by decide +kernel) (by decide +kernel)
-- StringBuilder.charAt
theorem b296_0 (d : Nat) (μ : jM) (a : Nat) (i1 : Int32) : jR (d + 1) 296 0 [.ref a, .int i1] [] μ = (if jrecv μ 1 (.ref a) = true then (jC d 275 [.ref a, .int i1] μ).bind fun p1 => jR (d + 1) 296 5 [.ref a, .int i1] (p1.1.toList ++ []) p1.2 else none) :=
  (l_aload_n (show gPG 296 0 = some (.aload_n 0) by decide +kernel) rfl jr_ref).trans <|
  (l_iload_n (show gPG 296 1 = some (.iload_n 1) by decide +kernel) rfl).trans <|
  l_callV (u := 3) (v := .ref a) (as := [.int i1]) (show gPG 296 2 = some (jinvI 3 329) by decide +kernel) (by decide) (cc := 275) (na := 2) (kd := 1) (q4 := 0) (z := 16) (rest := []) (by decide +kernel) (by decide +kernel)  rfl (show (2 : Nat) ≤ 2 by decide) rfl cs0 (by decide +kernel) (cai (cav jr_ref ca0))
theorem b296_5 (d : Nat) (μ : jM) (u0 : Value) (u1 : Value) (s0 : Int32) : jR d 296 5 [u0, u1] [.int s0] μ = (if jrf 6 s0 = true then some (some (.int s0), μ) else none) :=
  l_iret (show gPG 296 5 = some (.ireturn) by decide +kernel) (rc := 6) (by decide +kernel)
-- StringBuilder.toString
theorem b297_0 (d : Nat) (μ : jM) (a : Nat) : jR (d + 1) 297 0 [.ref a] [] μ = (jC d 289 [(.ref (jsz μ)), .ref a] ((jnew μ 0 0 4))).bind fun p1 => jR (d + 1) 297 8 [.ref a] (p1.1.toList ++ [(.ref (jsz μ))]) p1.2 :=
  (l_new (show gPG 297 0 = some (.new 18) by decide +kernel) (kd := 0) (wd := 4) (q3 := 0) (q4 := 0) (by decide +kernel)).trans <|
  (l_dup (show gPG 297 3 = some (.dup) by decide +kernel) (jr_cat1 jr_ref)).trans <|
  (l_aload_n (show gPG 297 4 = some (.aload_n 0) by decide +kernel) rfl jr_ref).trans <|
  l_callS (u := 3) (as := [(.ref (jsz μ)), .ref a]) (show gPG 297 5 = some (jinvI 3 137) by decide +kernel) (by decide) (cc := 289) (na := 2) (q4 := 0) (z := 14) (rest := [(.ref (jsz μ))]) (by decide +kernel) (by decide +kernel)  rfl (show (2 : Nat) ≤ 3 by decide) rfl (csv jr_ref cs0) (by decide +kernel) (cav jr_ref (cav jr_ref ca0)) (fun _ => ⟨_, _, rfl⟩)
theorem b297_8 (d : Nat) (μ : jM) (u0 : Value) (s0 : Nat) : jR d 297 8 [u0] [(.ref s0)] μ = some (some ((.ref s0)), μ) :=
  l_aret (show gPG 297 8 = some (.areturn) by decide +kernel) (by decide +kernel) jr_ref
-- StringLatin1.charAt
theorem b298_0 (d : Nat) (μ : jM) (r0 : Value) (i1 : Int32) (h0 : jisref r0 = true) : jR (d + 1) 298 0 [r0, .int i1] [] μ = (jal μ r0).bind fun x1 => (jC d 285 [.int i1, .int x1] μ).bind fun p2 => jR (d + 1) 298 6 [r0, .int i1] (p2.1.toList ++ []) p2.2 :=
  (l_iload_n (show gPG 298 0 = some (.iload_n 1) by decide +kernel) rfl).trans <|
  (l_aload_n (show gPG 298 1 = some (.aload_n 0) by decide +kernel) rfl h0).trans <|
  (l_alen (show gPG 298 2 = some (.arraylength) by decide +kernel) ).trans <| bd_cg fun x1 hx1 =>
  l_callS (u := 2) (as := [.int i1, .int x1]) (show gPG 298 3 = some (jinvI 2 9) by decide +kernel) (by decide) (cc := 285) (na := 2) (q4 := 0) (z := 12) (rest := []) (by decide +kernel) (by decide +kernel)  rfl (show (2 : Nat) ≤ 2 by decide) rfl cs0 (by decide +kernel) (cai (cai ca0)) (fun e => absurd e (by decide))
theorem b298_6 (d : Nat) (μ : jM) (r0 : Value) (i1 : Int32) (h0 : jisref r0 = true) : jR d 298 6 [r0, .int i1] [] μ = (jaB μ r0 i1).bind fun x1 => (if jrf 6 ((Int32.toUInt32 (x1 &&& 255) % 65536).toInt32) = true then some (some (.int ((Int32.toUInt32 (x1 &&& 255) % 65536).toInt32)), μ) else none) :=
  (l_aload_n (show gPG 298 6 = some (.aload_n 0) by decide +kernel) rfl h0).trans <|
  (l_iload_n (show gPG 298 7 = some (.iload_n 1) by decide +kernel) rfl).trans <|
  (l_bald (show gPG 298 8 = some (.baload) by decide +kernel) ).trans <| bd_cg fun x1 hx1 =>
  (l_sipush (show gPG 298 9 = some (.sipush 255) by decide +kernel) (c := 255) (by decide +kernel)).trans <|
  (l_iand (show gPG 298 12 = some (.iand) by decide +kernel) ).trans <|
  (l_i2c (show gPG 298 13 = some (.i2c) by decide +kernel) ).trans <|
  l_iret (show gPG 298 14 = some (.ireturn) by decide +kernel) (rc := 6) (by decide +kernel)
-- StringLatin1.canEncode/C
theorem b299_0 (d : Nat) (μ : jM) (i0 : Int32) : jR d 299 0 [.int i0] [] μ = (if 255 < i0 then jR d 299 12 [.int i0] [.int 0] μ else jR d 299 12 [.int i0] [.int 1] μ) :=
  (l_iload_n (show gPG 299 0 = some (.iload_n 0) by decide +kernel) rfl).trans <|
  (l_sipush (show gPG 299 1 = some (.sipush 255) by decide +kernel) (c := 255) (by decide +kernel)).trans <|
  (l_cmp (show gPG 299 4 = some (.if_icmp .gt 7) by decide +kernel) (t := 11) (by decide +kernel)).trans <| jm_gt.trans <| ite_cg (
  l_iconst (show gPG 299 11 = some (.iconst 0) by decide +kernel) (c := 0) (by decide +kernel)) (
  (l_iconst (show gPG 299 7 = some (.iconst 1) by decide +kernel) (c := 1) (by decide +kernel)).trans <|
  l_goto (show gPG 299 8 = some (.goto 4) by decide +kernel) (t := 12) (by decide +kernel))
theorem b299_12 (d : Nat) (μ : jM) (u0 : Value) (s0 : Int32) : jR d 299 12 [u0] [.int s0] μ = (if jrf 4 s0 = true then some (some (.int s0), μ) else none) :=
  l_iret (show gPG 299 12 = some (.ireturn) by decide +kernel) (rc := 4) (by decide +kernel)
-- StringLatin1.inflate
theorem b300_0 (d : Nat) (μ : jM) (r0 : Value) (i1 : Int32) (r2 : Value) (i3 : Int32) (i4 : Int32) (h0 : jisref r0 = true) (h2 : jisref r2 = true) : jR d 300 0 [r0, .int i1, r2, .int i3, .int i4] [] μ = jR d 300 6 [r0, .int i1, r2, .int i3, .int i4] [.int i4, .int i3, r2, .int i1, r0] μ :=
  (l_aload_n (show gPG 300 0 = some (.aload_n 0) by decide +kernel) rfl h0).trans <|
  (l_iload_n (show gPG 300 1 = some (.iload_n 1) by decide +kernel) rfl).trans <|
  (l_aload_n (show gPG 300 2 = some (.aload_n 2) by decide +kernel) rfl h2).trans <|
  (l_iload_n (show gPG 300 3 = some (.iload_n 3) by decide +kernel) rfl).trans <|
  l_iload (show gPG 300 4 = some (.iload 4) by decide +kernel) rfl
-- StringLatin1.indexOf
theorem b301_0 (d : Nat) (μ : jM) (r0 : Value) (i1 : Int32) (i2 : Int32) (i3 : Int32) (h0 : jisref r0 = true) : jR (d + 1) 301 0 [r0, .int i1, .int i2, .int i3] [] μ = (jC d 302 [.int i1] μ).bind fun p1 => jR (d + 1) 301 4 [r0, .int i1, .int i2, .int i3] (p1.1.toList ++ []) p1.2 :=
  (l_iload_n (show gPG 301 0 = some (.iload_n 1) by decide +kernel) rfl).trans <|
  l_callS (u := 2) (as := [.int i1]) (show gPG 301 1 = some (jinvI 2 88) by decide +kernel) (by decide) (cc := 302) (na := 1) (q4 := 0) (z := 12) (rest := []) (by decide +kernel) (by decide +kernel)  rfl (show (1 : Nat) ≤ 1 by decide) rfl cs0 (by decide +kernel) (cai ca0) (fun e => absurd e (by decide))
theorem b301_4 (d : Nat) (μ : jM) (r0 : Value) (i1 : Int32) (i2 : Int32) (i3 : Int32) (s0 : Int32) (h0 : jisref r0 = true) : jR (d + 1) 301 4 [r0, .int i1, .int i2, .int i3] [.int s0] μ = (if s0 = 0 then some (some (.int (-1)), μ) else (jC d 280 [.int i2, .int 0] μ).bind fun p1 => jR (d + 1) 301 14 [r0, .int i1, .int i2, .int i3] (p1.1.toList ++ []) p1.2) :=
  (l_cmp0 (show gPG 301 4 = some (.ifCond .ne 5) by decide +kernel) (t := 9) (by decide +kernel)).trans <| jm_ne.trans <| ite_cg (
  (l_iconst (show gPG 301 7 = some (.iconst (-1)) by decide +kernel) (c := (-1)) (by decide +kernel)).trans <|
  l_iret1 (show gPG 301 8 = some (.ireturn) by decide +kernel) (by decide +kernel)) (
  (l_iload_n (show gPG 301 9 = some (.iload_n 2) by decide +kernel) rfl).trans <|
  (l_iconst (show gPG 301 10 = some (.iconst 0) by decide +kernel) (c := 0) (by decide +kernel)).trans <|
  l_callS (u := 2) (as := [.int i2, .int 0]) (show gPG 301 11 = some (jinvI 2 92) by decide +kernel) (by decide) (cc := 280) (na := 2) (q4 := 0) (z := 12) (rest := []) (by decide +kernel) (by decide +kernel)  rfl (show (2 : Nat) ≤ 2 by decide) rfl cs0 (by decide +kernel) (cai (cai ca0)) (fun e => absurd e (by decide)))
theorem b301_14 (d : Nat) (μ : jM) (r0 : Value) (i1 : Int32) (u2 : Value) (i3 : Int32) (s0 : Int32) (h0 : jisref r0 = true) : jR (d + 1) 301 14 [r0, .int i1, u2, .int i3] [.int s0] μ = (jal μ r0).bind fun x1 => (jC d 279 [.int i3, .int x1] μ).bind fun p2 => jR (d + 1) 301 21 [r0, .int i1, .int s0, .int i3] (p2.1.toList ++ []) p2.2 :=
  (l_istore_n (show gPG 301 14 = some (.istore_n 2) by decide +kernel) (ls := [r0, .int i1, u2, .int i3]) (show (2 : Nat) < 4 by decide) (show _ = ([r0, .int i1, .int s0, .int i3] : List Value) from rfl)).trans <|
  (l_iload_n (show gPG 301 15 = some (.iload_n 3) by decide +kernel) rfl).trans <|
  (l_aload_n (show gPG 301 16 = some (.aload_n 0) by decide +kernel) rfl h0).trans <|
  (l_alen (show gPG 301 17 = some (.arraylength) by decide +kernel) ).trans <| bd_cg fun x1 hx1 =>
  l_callS (u := 2) (as := [.int i3, .int x1]) (show gPG 301 18 = some (jinvI 2 38) by decide +kernel) (by decide) (cc := 279) (na := 2) (q4 := 0) (z := 12) (rest := []) (by decide +kernel) (by decide +kernel)  rfl (show (2 : Nat) ≤ 2 by decide) rfl cs0 (by decide +kernel) (cai (cai ca0)) (fun e => absurd e (by decide))
theorem b301_21 (d : Nat) (μ : jM) (r0 : Value) (i1 : Int32) (i2 : Int32) (u3 : Value) (s0 : Int32) (h0 : jisref r0 = true) : jR (d + 1) 301 21 [r0, .int i1, .int i2, u3] [.int s0] μ = (if i2 < s0 then (jC d 303 [r0, .int i1, .int i2, .int s0] μ).bind fun p1 => jR (d + 1) 301 36 [r0, .int i1, .int i2, .int s0] (p1.1.toList ++ []) p1.2 else some (some (.int (-1)), μ)) :=
  (l_istore_n (show gPG 301 21 = some (.istore_n 3) by decide +kernel) (ls := [r0, .int i1, .int i2, u3]) (show (3 : Nat) < 4 by decide) (show _ = ([r0, .int i1, .int i2, .int s0] : List Value) from rfl)).trans <|
  (l_iload_n (show gPG 301 22 = some (.iload_n 2) by decide +kernel) rfl).trans <|
  (l_iload_n (show gPG 301 23 = some (.iload_n 3) by decide +kernel) rfl).trans <|
  (l_cmp (show gPG 301 24 = some (.if_icmp .lt 5) by decide +kernel) (t := 29) (by decide +kernel)).trans <| jm_lt.trans <| ite_cg (
  (l_aload_n (show gPG 301 29 = some (.aload_n 0) by decide +kernel) rfl h0).trans <|
  (l_iload_n (show gPG 301 30 = some (.iload_n 1) by decide +kernel) rfl).trans <|
  (l_iload_n (show gPG 301 31 = some (.iload_n 2) by decide +kernel) rfl).trans <|
  (l_iload_n (show gPG 301 32 = some (.iload_n 3) by decide +kernel) rfl).trans <|
  l_callS (u := 2) (as := [r0, .int i1, .int i2, .int s0]) (show gPG 301 33 = some (jinvI 2 95) by decide +kernel) (by decide) (cc := 303) (na := 4) (q4 := 0) (z := 12) (rest := []) (by decide +kernel) (by decide +kernel)  rfl (show (4 : Nat) ≤ 4 by decide) rfl cs0 (by decide +kernel) (cai (cai (cai (cav h0 ca0)))) (fun e => absurd e (by decide))) (
  (l_iconst (show gPG 301 27 = some (.iconst (-1)) by decide +kernel) (c := (-1)) (by decide +kernel)).trans <|
  l_iret1 (show gPG 301 28 = some (.ireturn) by decide +kernel) (by decide +kernel))
theorem b301_36 (d : Nat) (μ : jM) (u0 : Value) (u1 : Value) (u2 : Value) (u3 : Value) (s0 : Int32) : jR d 301 36 [u0, u1, u2, u3] [.int s0] μ = some (some (.int s0), μ) :=
  l_iret1 (show gPG 301 36 = some (.ireturn) by decide +kernel) (by decide +kernel)
-- StringLatin1.canEncode/I
theorem b302_0 (d : Nat) (μ : jM) (i0 : Int32) : jR d 302 0 [.int i0] [] μ = (if i0 < 0 then jR d 302 15 [.int i0] [] μ else (if 255 < i0 then jR d 302 15 [.int i0] [] μ else jR d 302 16 [.int i0] [.int 1] μ)) :=
  (l_iload_n (show gPG 302 0 = some (.iload_n 0) by decide +kernel) rfl).trans <|
  (l_cmp0 (show gPG 302 1 = some (.ifCond .lt 14) by decide +kernel) (t := 15) (by decide +kernel)).trans <| jm_lt.trans <| ite_cg (
  rfl) (
  (l_iload_n (show gPG 302 4 = some (.iload_n 0) by decide +kernel) rfl).trans <|
  (l_sipush (show gPG 302 5 = some (.sipush 255) by decide +kernel) (c := 255) (by decide +kernel)).trans <|
  (l_cmp (show gPG 302 8 = some (.if_icmp .gt 7) by decide +kernel) (t := 15) (by decide +kernel)).trans <| jm_gt.trans <| ite_cg (
  rfl) (
  (l_iconst (show gPG 302 11 = some (.iconst 1) by decide +kernel) (c := 1) (by decide +kernel)).trans <|
  l_goto (show gPG 302 12 = some (.goto 4) by decide +kernel) (t := 16) (by decide +kernel)))
theorem b302_15 (d : Nat) (μ : jM) (u0 : Value) : jR d 302 15 [u0] [] μ = jR d 302 16 [u0] [.int 0] μ :=
  l_iconst (show gPG 302 15 = some (.iconst 0) by decide +kernel) (c := 0) (by decide +kernel)
theorem b302_16 (d : Nat) (μ : jM) (u0 : Value) (s0 : Int32) : jR d 302 16 [u0] [.int s0] μ = (if jrf 4 s0 = true then some (some (.int s0), μ) else none) :=
  l_iret (show gPG 302 16 = some (.ireturn) by decide +kernel) (rc := 4) (by decide +kernel)
-- StringLatin1.indexOfChar
theorem b303_0 (d : Nat) (μ : jM) (r0 : Value) (i1 : Int32) (i2 : Int32) (i3 : Int32) (h0 : jisref r0 = true) : jR d 303 0 [r0, .int i1, .int i2, .int i3, .retAddr 0, .retAddr 0] [] μ = jR d 303 7 [r0, .int i1, .int i2, .int i3, .int ((Int32.toInt8 i1).toInt32), .int i2] [] μ :=
  (l_iload_n (show gPG 303 0 = some (.iload_n 1) by decide +kernel) rfl).trans <|
  (l_i2b (show gPG 303 1 = some (.i2b) by decide +kernel) ).trans <|
  (l_istore (show gPG 303 2 = some (.istore 4) by decide +kernel) (ls := [r0, .int i1, .int i2, .int i3, .retAddr 0, .retAddr 0]) (show (4 : Nat) < 6 by decide) (show _ = ([r0, .int i1, .int i2, .int i3, .int ((Int32.toInt8 i1).toInt32), .retAddr 0] : List Value) from rfl)).trans <|
  (l_iload_n (show gPG 303 4 = some (.iload_n 2) by decide +kernel) rfl).trans <|
  l_istore (show gPG 303 5 = some (.istore 5) by decide +kernel) (ls := [r0, .int i1, .int i2, .int i3, .int ((Int32.toInt8 i1).toInt32), .retAddr 0]) (show (5 : Nat) < 6 by decide) (show _ = ([r0, .int i1, .int i2, .int i3, .int ((Int32.toInt8 i1).toInt32), .int i2] : List Value) from rfl)
theorem b303_7 (d : Nat) (μ : jM) (r0 : Value) (u1 : Value) (u2 : Value) (i3 : Int32) (i4 : Int32) (i5 : Int32) (h0 : jisref r0 = true) : jR d 303 7 [r0, u1, u2, .int i3, .int i4, .int i5] [] μ = (if i5 < i3 then (jaB μ r0 i5).bind fun x1 => (if x1 = i4 then some (some (.int i5), μ) else jR d 303 7 [r0, u1, u2, .int i3, .int i4, .int (i5 + 1)] [] μ) else some (some (.int (-1)), μ)) :=
  (l_iload (show gPG 303 7 = some (.iload 5) by decide +kernel) rfl).trans <|
  (l_iload_n (show gPG 303 9 = some (.iload_n 3) by decide +kernel) rfl).trans <|
  (l_cmp (show gPG 303 10 = some (.if_icmp .ge 21) by decide +kernel) (t := 31) (by decide +kernel)).trans <| jm_ge.trans <| ite_cg (
  (l_aload_n (show gPG 303 13 = some (.aload_n 0) by decide +kernel) rfl h0).trans <|
  (l_iload (show gPG 303 14 = some (.iload 5) by decide +kernel) rfl).trans <|
  (l_bald (show gPG 303 16 = some (.baload) by decide +kernel) ).trans <| bd_cg fun x1 hx1 =>
  (l_iload (show gPG 303 17 = some (.iload 4) by decide +kernel) rfl).trans <|
  (l_cmp (show gPG 303 19 = some (.if_icmp .ne 6) by decide +kernel) (t := 25) (by decide +kernel)).trans <| jm_ne.trans <| ite_cg (
  (l_iload (show gPG 303 22 = some (.iload 5) by decide +kernel) rfl).trans <|
  l_iret1 (show gPG 303 24 = some (.ireturn) by decide +kernel) (by decide +kernel)) (
  (l_iinc (show gPG 303 25 = some (.iinc 5 1) by decide +kernel) (c := 1) (by decide +kernel) rfl (show _ = ([r0, u1, u2, .int i3, .int i4, .int (i5 + 1)] : List Value) from rfl)).trans <|
  l_goto (show gPG 303 28 = some (.goto (-21)) by decide +kernel) (t := 7) (by decide +kernel))) (
  (l_iconst (show gPG 303 31 = some (.iconst (-1)) by decide +kernel) (c := (-1)) (by decide +kernel)).trans <|
  l_iret1 (show gPG 303 32 = some (.ireturn) by decide +kernel) (by decide +kernel))
-- Arrays.copyOf/[II
theorem b304_0 (d : Nat) (μ : jM) (r0 : Value) (i1 : Int32) (h0 : jisref r0 = true) : jR (d + 1) 304 0 [r0, .int i1, .retAddr 0] [] μ = (jal μ r0).bind fun x1 => (if i1 = x1 then (if jclk μ 20 r0 = true then (jcl μ r0).bind fun p5 => (if jck p5.2 20 p5.1 = true then some (some p5.1, p5.2) else none) else none) else (jnA μ 20 i1).bind fun p2 => (jal p2.2 r0).bind fun x3 => (jC d 279 [.int x3, .int i1] p2.2).bind fun p4 => jR (d + 1) 304 28 [r0, .int i1, p2.1] (p4.1.toList ++ [.int 0, p2.1, .int 0, r0]) p4.2) :=
  (l_iload_n (show gPG 304 0 = some (.iload_n 1) by decide +kernel) rfl).trans <|
  (l_aload_n (show gPG 304 1 = some (.aload_n 0) by decide +kernel) rfl h0).trans <|
  (l_alen (show gPG 304 2 = some (.arraylength) by decide +kernel) ).trans <| bd_cg fun x1 hx1 =>
  (l_cmp (show gPG 304 3 = some (.if_icmp .ne 11) by decide +kernel) (t := 14) (by decide +kernel)).trans <| jm_ne.trans <| ite_cg (
  (l_aload_n (show gPG 304 6 = some (.aload_n 0) by decide +kernel) rfl h0).trans <|
  (l_clone (show gPG 304 7 = some (.invokevirtual 316) by decide +kernel) (q3 := 99) (q4 := 20) (z := 20) (by decide +kernel) (by decide +kernel) h0 cs0 (by decide +kernel)).trans <| ite_cg (bd_cg fun p5 hp5 =>
  (l_cast (show gPG 304 10 = some (.checkcast 317) by decide +kernel) (q1 := 0) (q2 := 0) (kd := 20) (q4 := 0) (by decide +kernel)).trans <| ite_cg (
  l_aret (show gPG 304 13 = some (.areturn) by decide +kernel) (by decide +kernel) (jr_cl hp5)) rfl) rfl) (
  (l_iload_n (show gPG 304 14 = some (.iload_n 1) by decide +kernel) rfl).trans <|
  (l_newa (show gPG 304 15 = some (.newarray .int) by decide +kernel) (kd := 20) rfl).trans <| bd_cg fun p2 hp2 =>
  (l_astore_n (show gPG 304 17 = some (.astore_n 2) by decide +kernel) (ls := [r0, .int i1, .retAddr 0]) (jr_nA hp2) (show (2 : Nat) < 3 by decide) (show _ = ([r0, .int i1, p2.1] : List Value) from rfl)).trans <|
  (l_aload_n (show gPG 304 18 = some (.aload_n 0) by decide +kernel) rfl h0).trans <|
  (l_iconst (show gPG 304 19 = some (.iconst 0) by decide +kernel) (c := 0) (by decide +kernel)).trans <|
  (l_aload_n (show gPG 304 20 = some (.aload_n 2) by decide +kernel) rfl (jr_nA hp2)).trans <|
  (l_iconst (show gPG 304 21 = some (.iconst 0) by decide +kernel) (c := 0) (by decide +kernel)).trans <|
  (l_aload_n (show gPG 304 22 = some (.aload_n 0) by decide +kernel) rfl h0).trans <|
  (l_alen (show gPG 304 23 = some (.arraylength) by decide +kernel) ).trans <| bd_cg fun x3 hx3 =>
  (l_iload_n (show gPG 304 24 = some (.iload_n 1) by decide +kernel) rfl).trans <|
  l_callS (u := 2) (as := [.int x3, .int i1]) (show gPG 304 25 = some (jinvI 2 304) by decide +kernel) (by decide) (cc := 279) (na := 2) (q4 := 0) (z := 12) (rest := [.int 0, p2.1, .int 0, r0]) (by decide +kernel) (by decide +kernel)  rfl (show (2 : Nat) ≤ 6 by decide) rfl (csi (csv (jr_nA hp2) (csi (csv h0 cs0)))) (by decide +kernel) (cai (cai ca0)) (fun e => absurd e (by decide)))
theorem b304_28 (d : Nat) (μ : jM) (u0 : Value) (u1 : Value) (r2 : Value) (s0 : Value) (s1 : Int32) (s2 : Value) (s3 : Int32) (s4 : Int32) (h2 : jisref r2 = true) (hs0 : jisref s0 = true) (hs2 : jisref s2 = true) : jR (d + 1) 304 28 [u0, u1, r2] [.int s4, .int s3, s2, .int s1, s0] μ = (jcp μ s0 s1 s2 s3 s4).bind fun m1 => some (some r2, m1) :=
  (l_acp (show gPG 304 28 = some (.invokestatic 150) by decide +kernel) (q3 := 99) (q4 := 0) (z := 19) (by decide +kernel) (by decide +kernel) hs0 hs2 cs0 (by decide +kernel)).trans <| bd_cg fun m1 hm1 =>
  (l_aload_n (show gPG 304 31 = some (.aload_n 2) by decide +kernel) rfl h2).trans <|
  l_aret (show gPG 304 32 = some (.areturn) by decide +kernel) (by decide +kernel) h2
-- Arrays.fill
theorem b305_0 (d : Nat) (μ : jM) (r0 : Value) (i1 : Int32) (h0 : jisref r0 = true) : jR d 305 0 [r0, .int i1, .retAddr 0, .retAddr 0] [] μ = (jal μ r0).bind fun x1 => jR d 305 5 [r0, .int i1, .int 0, .int x1] [] μ :=
  (l_iconst (show gPG 305 0 = some (.iconst 0) by decide +kernel) (c := 0) (by decide +kernel)).trans <|
  (l_istore_n (show gPG 305 1 = some (.istore_n 2) by decide +kernel) (ls := [r0, .int i1, .retAddr 0, .retAddr 0]) (show (2 : Nat) < 4 by decide) (show _ = ([r0, .int i1, .int 0, .retAddr 0] : List Value) from rfl)).trans <|
  (l_aload_n (show gPG 305 2 = some (.aload_n 0) by decide +kernel) rfl h0).trans <|
  (l_alen (show gPG 305 3 = some (.arraylength) by decide +kernel) ).trans <| bd_cg fun x1 hx1 =>
  l_istore_n (show gPG 305 4 = some (.istore_n 3) by decide +kernel) (ls := [r0, .int i1, .int 0, .retAddr 0]) (show (3 : Nat) < 4 by decide) (show _ = ([r0, .int i1, .int 0, .int x1] : List Value) from rfl)
theorem b305_5 (d : Nat) (μ : jM) (r0 : Value) (i1 : Int32) (i2 : Int32) (i3 : Int32) (h0 : jisref r0 = true) : jR d 305 5 [r0, .int i1, .int i2, .int i3] [] μ = (if i2 < i3 then (jsI μ r0 i2 i1).bind fun m1 => jR d 305 5 [r0, .int i1, .int (i2 + 1), .int i3] [] m1 else some (none, μ)) :=
  (l_iload_n (show gPG 305 5 = some (.iload_n 2) by decide +kernel) rfl).trans <|
  (l_iload_n (show gPG 305 6 = some (.iload_n 3) by decide +kernel) rfl).trans <|
  (l_cmp (show gPG 305 7 = some (.if_icmp .ge 13) by decide +kernel) (t := 20) (by decide +kernel)).trans <| jm_ge.trans <| ite_cg (
  (l_aload_n (show gPG 305 10 = some (.aload_n 0) by decide +kernel) rfl h0).trans <|
  (l_iload_n (show gPG 305 11 = some (.iload_n 2) by decide +kernel) rfl).trans <|
  (l_iload_n (show gPG 305 12 = some (.iload_n 1) by decide +kernel) rfl).trans <|
  (l_iast (show gPG 305 13 = some (.iastore) by decide +kernel) ).trans <| bd_cg fun m1 hm1 =>
  (l_iinc (show gPG 305 14 = some (.iinc 2 1) by decide +kernel) (c := 1) (by decide +kernel) rfl (show _ = ([r0, .int i1, .int (i2 + 1), .int i3] : List Value) from rfl)).trans <|
  l_goto (show gPG 305 17 = some (.goto (-12)) by decide +kernel) (t := 5) (by decide +kernel)) (
  l_ret (show gPG 305 20 = some (.return_) by decide +kernel) (by decide +kernel))
-- Arrays.copyOf/[BI
theorem b306_0 (d : Nat) (μ : jM) (r0 : Value) (i1 : Int32) (h0 : jisref r0 = true) : jR (d + 1) 306 0 [r0, .int i1, .retAddr 0] [] μ = (jal μ r0).bind fun x1 => (if i1 = x1 then (if jclk μ 22 r0 = true then (jcl μ r0).bind fun p5 => (if jck p5.2 22 p5.1 = true then some (some p5.1, p5.2) else none) else none) else (jnA μ 22 i1).bind fun p2 => (jal p2.2 r0).bind fun x3 => (jC d 279 [.int x3, .int i1] p2.2).bind fun p4 => jR (d + 1) 306 28 [r0, .int i1, p2.1] (p4.1.toList ++ [.int 0, p2.1, .int 0, r0]) p4.2) :=
  (l_iload_n (show gPG 306 0 = some (.iload_n 1) by decide +kernel) rfl).trans <|
  (l_aload_n (show gPG 306 1 = some (.aload_n 0) by decide +kernel) rfl h0).trans <|
  (l_alen (show gPG 306 2 = some (.arraylength) by decide +kernel) ).trans <| bd_cg fun x1 hx1 =>
  (l_cmp (show gPG 306 3 = some (.if_icmp .ne 11) by decide +kernel) (t := 14) (by decide +kernel)).trans <| jm_ne.trans <| ite_cg (
  (l_aload_n (show gPG 306 6 = some (.aload_n 0) by decide +kernel) rfl h0).trans <|
  (l_clone (show gPG 306 7 = some (.invokevirtual 310) by decide +kernel) (q3 := 99) (q4 := 22) (z := 20) (by decide +kernel) (by decide +kernel) h0 cs0 (by decide +kernel)).trans <| ite_cg (bd_cg fun p5 hp5 =>
  (l_cast (show gPG 306 10 = some (.checkcast 311) by decide +kernel) (q1 := 0) (q2 := 0) (kd := 22) (q4 := 0) (by decide +kernel)).trans <| ite_cg (
  l_aret (show gPG 306 13 = some (.areturn) by decide +kernel) (by decide +kernel) (jr_cl hp5)) rfl) rfl) (
  (l_iload_n (show gPG 306 14 = some (.iload_n 1) by decide +kernel) rfl).trans <|
  (l_newa (show gPG 306 15 = some (.newarray .byte) by decide +kernel) (kd := 22) rfl).trans <| bd_cg fun p2 hp2 =>
  (l_astore_n (show gPG 306 17 = some (.astore_n 2) by decide +kernel) (ls := [r0, .int i1, .retAddr 0]) (jr_nA hp2) (show (2 : Nat) < 3 by decide) (show _ = ([r0, .int i1, p2.1] : List Value) from rfl)).trans <|
  (l_aload_n (show gPG 306 18 = some (.aload_n 0) by decide +kernel) rfl h0).trans <|
  (l_iconst (show gPG 306 19 = some (.iconst 0) by decide +kernel) (c := 0) (by decide +kernel)).trans <|
  (l_aload_n (show gPG 306 20 = some (.aload_n 2) by decide +kernel) rfl (jr_nA hp2)).trans <|
  (l_iconst (show gPG 306 21 = some (.iconst 0) by decide +kernel) (c := 0) (by decide +kernel)).trans <|
  (l_aload_n (show gPG 306 22 = some (.aload_n 0) by decide +kernel) rfl h0).trans <|
  (l_alen (show gPG 306 23 = some (.arraylength) by decide +kernel) ).trans <| bd_cg fun x3 hx3 =>
  (l_iload_n (show gPG 306 24 = some (.iload_n 1) by decide +kernel) rfl).trans <|
  l_callS (u := 2) (as := [.int x3, .int i1]) (show gPG 306 25 = some (jinvI 2 304) by decide +kernel) (by decide) (cc := 279) (na := 2) (q4 := 0) (z := 12) (rest := [.int 0, p2.1, .int 0, r0]) (by decide +kernel) (by decide +kernel)  rfl (show (2 : Nat) ≤ 6 by decide) rfl (csi (csv (jr_nA hp2) (csi (csv h0 cs0)))) (by decide +kernel) (cai (cai ca0)) (fun e => absurd e (by decide)))
theorem b306_28 (d : Nat) (μ : jM) (u0 : Value) (u1 : Value) (r2 : Value) (s0 : Value) (s1 : Int32) (s2 : Value) (s3 : Int32) (s4 : Int32) (h2 : jisref r2 = true) (hs0 : jisref s0 = true) (hs2 : jisref s2 = true) : jR (d + 1) 306 28 [u0, u1, r2] [.int s4, .int s3, s2, .int s1, s0] μ = (jcp μ s0 s1 s2 s3 s4).bind fun m1 => some (some r2, m1) :=
  (l_acp (show gPG 306 28 = some (.invokestatic 150) by decide +kernel) (q3 := 99) (q4 := 0) (z := 19) (by decide +kernel) (by decide +kernel) hs0 hs2 cs0 (by decide +kernel)).trans <| bd_cg fun m1 hm1 =>
  (l_aload_n (show gPG 306 31 = some (.aload_n 2) by decide +kernel) rfl h2).trans <|
  l_aret (show gPG 306 32 = some (.areturn) by decide +kernel) (by decide +kernel) h2
-- Arrays.copyOfRange
theorem b307_0 (d : Nat) (μ : jM) (r0 : Value) (i1 : Int32) (i2 : Int32) (h0 : jisref r0 = true) : jR (d + 1) 307 0 [r0, .int i1, .int i2] [] μ = (if i1 = 0 then (jal μ r0).bind fun x1 => (if i2 = x1 then (if jclk μ 22 r0 = true then (jcl μ r0).bind fun p2 => (if jck p2.2 22 p2.1 = true then some (some p2.1, p2.2) else none) else none) else jR (d + 1) 307 10 [r0, .int i1, .int i2] [] μ) else jR (d + 1) 307 10 [r0, .int i1, .int i2] [] μ) :=
  (l_iload_n (show gPG 307 0 = some (.iload_n 1) by decide +kernel) rfl).trans <|
  (l_cmp0 (show gPG 307 1 = some (.ifCond .ne 9) by decide +kernel) (t := 10) (by decide +kernel)).trans <| jm_ne.trans <| ite_cg (
  (l_iload_n (show gPG 307 4 = some (.iload_n 2) by decide +kernel) rfl).trans <|
  (l_aload_n (show gPG 307 5 = some (.aload_n 0) by decide +kernel) rfl h0).trans <|
  (l_alen (show gPG 307 6 = some (.arraylength) by decide +kernel) ).trans <| bd_cg fun x1 hx1 =>
  (l_cmp (show gPG 307 7 = some (.if_icmp .eq 10) by decide +kernel) (t := 17) (by decide +kernel)).trans <| jm_eq.trans <| ite_cg (
  (l_aload_n (show gPG 307 17 = some (.aload_n 0) by decide +kernel) rfl h0).trans <|
  (l_clone (show gPG 307 18 = some (.invokevirtual 310) by decide +kernel) (q3 := 99) (q4 := 22) (z := 20) (by decide +kernel) (by decide +kernel) h0 cs0 (by decide +kernel)).trans <| ite_cg (bd_cg fun p2 hp2 =>
  (l_cast (show gPG 307 21 = some (.checkcast 311) by decide +kernel) (q1 := 0) (q2 := 0) (kd := 22) (q4 := 0) (by decide +kernel)).trans <| ite_cg (
  l_aret (show gPG 307 24 = some (.areturn) by decide +kernel) (by decide +kernel) (jr_cl hp2)) rfl) rfl) (
  rfl)) (
  rfl)
theorem b307_10 (d : Nat) (μ : jM) (r0 : Value) (i1 : Int32) (i2 : Int32) (h0 : jisref r0 = true) : jR (d + 1) 307 10 [r0, .int i1, .int i2] [] μ = (jC d 308 [r0, .int i1, .int i2] μ).bind fun p1 => jR (d + 1) 307 16 [r0, .int i1, .int i2] (p1.1.toList ++ []) p1.2 :=
  (l_aload_n (show gPG 307 10 = some (.aload_n 0) by decide +kernel) rfl h0).trans <|
  (l_iload_n (show gPG 307 11 = some (.iload_n 1) by decide +kernel) rfl).trans <|
  (l_iload_n (show gPG 307 12 = some (.iload_n 2) by decide +kernel) rfl).trans <|
  l_callS (u := 2) (as := [r0, .int i1, .int i2]) (show gPG 307 13 = some (jinvI 2 339) by decide +kernel) (by decide) (cc := 308) (na := 3) (q4 := 0) (z := 12) (rest := []) (by decide +kernel) (by decide +kernel)  rfl (show (3 : Nat) ≤ 3 by decide) rfl cs0 (by decide +kernel) (cai (cai (cav h0 ca0))) (fun e => absurd e (by decide))
theorem b307_16 (d : Nat) (μ : jM) (u0 : Value) (u1 : Value) (u2 : Value) (s0 : Value) (hs0 : jisref s0 = true) : jR d 307 16 [u0, u1, u2] [s0] μ = some (some s0, μ) :=
  l_aret (show gPG 307 16 = some (.areturn) by decide +kernel) (by decide +kernel) hs0
-- Arrays.copyOfRangeByte
theorem b308_0 (d : Nat) (μ : jM) (r0 : Value) (i1 : Int32) (i2 : Int32) (h0 : jisref r0 = true) : jR (d + 1) 308 0 [r0, .int i1, .int i2, .retAddr 0, .retAddr 0] [] μ = (jC d 309 [.int i1, .int i2] μ).bind fun p1 => jR (d + 1) 308 5 [r0, .int i1, .int i2, .retAddr 0, .retAddr 0] (p1.1.toList ++ []) p1.2 :=
  (l_iload_n (show gPG 308 0 = some (.iload_n 1) by decide +kernel) rfl).trans <|
  (l_iload_n (show gPG 308 1 = some (.iload_n 2) by decide +kernel) rfl).trans <|
  l_callS (u := 2) (as := [.int i1, .int i2]) (show gPG 308 2 = some (jinvI 2 343) by decide +kernel) (by decide) (cc := 309) (na := 2) (q4 := 0) (z := 12) (rest := []) (by decide +kernel) (by decide +kernel)  rfl (show (2 : Nat) ≤ 2 by decide) rfl cs0 (by decide +kernel) (cai (cai ca0)) (fun e => absurd e (by decide))
theorem b308_5 (d : Nat) (μ : jM) (r0 : Value) (i1 : Int32) (i2 : Int32) (u3 : Value) (u4 : Value) (h0 : jisref r0 = true) : jR (d + 1) 308 5 [r0, .int i1, .int i2, u3, u4] [] μ = (jnA μ 22 (i2 - i1)).bind fun p1 => (jal p1.2 r0).bind fun x2 => (jC d 279 [.int (x2 - i1), .int (i2 - i1)] p1.2).bind fun p3 => jR (d + 1) 308 27 [r0, .int i1, .int i2, .int (i2 - i1), p1.1] (p3.1.toList ++ [.int 0, p1.1, .int i1, r0]) p3.2 :=
  (l_iload_n (show gPG 308 5 = some (.iload_n 2) by decide +kernel) rfl).trans <|
  (l_iload_n (show gPG 308 6 = some (.iload_n 1) by decide +kernel) rfl).trans <|
  (l_isub (show gPG 308 7 = some (.isub) by decide +kernel) ).trans <|
  (l_istore_n (show gPG 308 8 = some (.istore_n 3) by decide +kernel) (ls := [r0, .int i1, .int i2, u3, u4]) (show (3 : Nat) < 5 by decide) (show _ = ([r0, .int i1, .int i2, .int (i2 - i1), u4] : List Value) from rfl)).trans <|
  (l_iload_n (show gPG 308 9 = some (.iload_n 3) by decide +kernel) rfl).trans <|
  (l_newa (show gPG 308 10 = some (.newarray .byte) by decide +kernel) (kd := 22) rfl).trans <| bd_cg fun p1 hp1 =>
  (l_astore (show gPG 308 12 = some (.astore 4) by decide +kernel) (ls := [r0, .int i1, .int i2, .int (i2 - i1), u4]) (jr_nA hp1) (show (4 : Nat) < 5 by decide) (show _ = ([r0, .int i1, .int i2, .int (i2 - i1), p1.1] : List Value) from rfl)).trans <|
  (l_aload_n (show gPG 308 14 = some (.aload_n 0) by decide +kernel) rfl h0).trans <|
  (l_iload_n (show gPG 308 15 = some (.iload_n 1) by decide +kernel) rfl).trans <|
  (l_aload (show gPG 308 16 = some (.aload 4) by decide +kernel) rfl (jr_nA hp1)).trans <|
  (l_iconst (show gPG 308 18 = some (.iconst 0) by decide +kernel) (c := 0) (by decide +kernel)).trans <|
  (l_aload_n (show gPG 308 19 = some (.aload_n 0) by decide +kernel) rfl h0).trans <|
  (l_alen (show gPG 308 20 = some (.arraylength) by decide +kernel) ).trans <| bd_cg fun x2 hx2 =>
  (l_iload_n (show gPG 308 21 = some (.iload_n 1) by decide +kernel) rfl).trans <|
  (l_isub (show gPG 308 22 = some (.isub) by decide +kernel) ).trans <|
  (l_iload_n (show gPG 308 23 = some (.iload_n 3) by decide +kernel) rfl).trans <|
  l_callS (u := 2) (as := [.int (x2 - i1), .int (i2 - i1)]) (show gPG 308 24 = some (jinvI 2 304) by decide +kernel) (by decide) (cc := 279) (na := 2) (q4 := 0) (z := 12) (rest := [.int 0, p1.1, .int i1, r0]) (by decide +kernel) (by decide +kernel)  rfl (show (2 : Nat) ≤ 6 by decide) rfl (csi (csv (jr_nA hp1) (csi (csv h0 cs0)))) (by decide +kernel) (cai (cai ca0)) (fun e => absurd e (by decide))
theorem b308_27 (d : Nat) (μ : jM) (u0 : Value) (u1 : Value) (u2 : Value) (u3 : Value) (r4 : Value) (s0 : Value) (s1 : Int32) (s2 : Value) (s3 : Int32) (s4 : Int32) (h4 : jisref r4 = true) (hs0 : jisref s0 = true) (hs2 : jisref s2 = true) : jR (d + 1) 308 27 [u0, u1, u2, u3, r4] [.int s4, .int s3, s2, .int s1, s0] μ = (jcp μ s0 s1 s2 s3 s4).bind fun m1 => some (some r4, m1) :=
  (l_acp (show gPG 308 27 = some (.invokestatic 150) by decide +kernel) (q3 := 99) (q4 := 0) (z := 19) (by decide +kernel) (by decide +kernel) hs0 hs2 cs0 (by decide +kernel)).trans <| bd_cg fun m1 hm1 =>
  (l_aload (show gPG 308 30 = some (.aload 4) by decide +kernel) rfl h4).trans <|
  l_aret (show gPG 308 32 = some (.areturn) by decide +kernel) (by decide +kernel) h4
-- Arrays.checkLength
theorem b309_0 (d : Nat) (μ : jM) (i0 : Int32) (i1 : Int32) : jR d 309 0 [.int i0, .int i1] [] μ = (if i1 < i0 then jR d 309 5 [.int i0, .int i1] [] μ else some (none, μ)) :=
  (l_iload_n (show gPG 309 0 = some (.iload_n 1) by decide +kernel) rfl).trans <|
  (l_iload_n (show gPG 309 1 = some (.iload_n 0) by decide +kernel) rfl).trans <|
  (l_cmp (show gPG 309 2 = some (.if_icmp .ge 35) by decide +kernel) (t := 37) (by decide +kernel)).trans <| jm_ge.trans <| ite_cg (
  rfl) (
  l_ret (show gPG 309 37 = some (.return_) by decide +kernel) (by decide +kernel))
-- ArraysSupport.newLength
theorem b310_0 (d : Nat) (μ : jM) (i0 : Int32) (i1 : Int32) (i2 : Int32) : jR (d + 1) 310 0 [.int i0, .int i1, .int i2, .retAddr 0] [] μ = (jC d 280 [.int i1, .int i2] μ).bind fun p1 => jR (d + 1) 310 6 [.int i0, .int i1, .int i2, .retAddr 0] (p1.1.toList ++ [.int i0]) p1.2 :=
  (l_iload_n (show gPG 310 0 = some (.iload_n 0) by decide +kernel) rfl).trans <|
  (l_iload_n (show gPG 310 1 = some (.iload_n 1) by decide +kernel) rfl).trans <|
  (l_iload_n (show gPG 310 2 = some (.iload_n 2) by decide +kernel) rfl).trans <|
  l_callS (u := 2) (as := [.int i1, .int i2]) (show gPG 310 3 = some (jinvI 2 194) by decide +kernel) (by decide) (cc := 280) (na := 2) (q4 := 0) (z := 12) (rest := [.int i0]) (by decide +kernel) (by decide +kernel)  rfl (show (2 : Nat) ≤ 3 by decide) rfl (csi cs0) (by decide +kernel) (cai (cai ca0)) (fun e => absurd e (by decide))
theorem b310_6 (d : Nat) (μ : jM) (i0 : Int32) (i1 : Int32) (u2 : Value) (u3 : Value) (s0 : Int32) (s1 : Int32) : jR d 310 6 [.int i0, .int i1, u2, u3] [.int s1, .int s0] μ = (if 0 < (s0 + s1) then (if 2147483639 < (s0 + s1) then jR d 310 21 [.int i0, .int i1, u2, .int (s0 + s1)] [] μ else some (some (.int (s0 + s1)), μ)) else jR d 310 21 [.int i0, .int i1, u2, .int (s0 + s1)] [] μ) :=
  (l_iadd (show gPG 310 6 = some (.iadd) by decide +kernel) ).trans <|
  (l_istore_n (show gPG 310 7 = some (.istore_n 3) by decide +kernel) (ls := [.int i0, .int i1, u2, u3]) (show (3 : Nat) < 4 by decide) (show _ = ([.int i0, .int i1, u2, .int (s0 + s1)] : List Value) from rfl)).trans <|
  (l_iconst (show gPG 310 8 = some (.iconst 0) by decide +kernel) (c := 0) (by decide +kernel)).trans <|
  (l_iload_n (show gPG 310 9 = some (.iload_n 3) by decide +kernel) rfl).trans <|
  (l_cmp (show gPG 310 10 = some (.if_icmp .ge 11) by decide +kernel) (t := 21) (by decide +kernel)).trans <| jm_ge.trans <| ite_cg (
  (l_iload_n (show gPG 310 13 = some (.iload_n 3) by decide +kernel) rfl).trans <|
  (l_ldc (show gPG 310 14 = some (.ldc 200) by decide +kernel) (c := 2147483639) (by decide +kernel)).trans <|
  (l_cmp (show gPG 310 16 = some (.if_icmp .gt 5) by decide +kernel) (t := 21) (by decide +kernel)).trans <| jm_gt.trans <| ite_cg (
  rfl) (
  (l_iload_n (show gPG 310 19 = some (.iload_n 3) by decide +kernel) rfl).trans <|
  l_iret1 (show gPG 310 20 = some (.ireturn) by decide +kernel) (by decide +kernel))) (
  rfl)
theorem b310_21 (d : Nat) (μ : jM) (i0 : Int32) (i1 : Int32) (u2 : Value) (u3 : Value) : jR (d + 1) 310 21 [.int i0, .int i1, u2, u3] [] μ = (jC d 311 [.int i0, .int i1] μ).bind fun p1 => jR (d + 1) 310 26 [.int i0, .int i1, u2, u3] (p1.1.toList ++ []) p1.2 :=
  (l_iload_n (show gPG 310 21 = some (.iload_n 0) by decide +kernel) rfl).trans <|
  (l_iload_n (show gPG 310 22 = some (.iload_n 1) by decide +kernel) rfl).trans <|
  l_callS (u := 2) (as := [.int i0, .int i1]) (show gPG 310 23 = some (jinvI 2 201) by decide +kernel) (by decide) (cc := 311) (na := 2) (q4 := 0) (z := 12) (rest := []) (by decide +kernel) (by decide +kernel)  rfl (show (2 : Nat) ≤ 2 by decide) rfl cs0 (by decide +kernel) (cai (cai ca0)) (fun e => absurd e (by decide))
theorem b310_26 (d : Nat) (μ : jM) (u0 : Value) (u1 : Value) (u2 : Value) (u3 : Value) (s0 : Int32) : jR d 310 26 [u0, u1, u2, u3] [.int s0] μ = some (some (.int s0), μ) :=
  l_iret1 (show gPG 310 26 = some (.ireturn) by decide +kernel) (by decide +kernel)
-- ArraysSupport.hugeLength
theorem b311_0 (d : Nat) (μ : jM) (i0 : Int32) (i1 : Int32) : jR d 311 0 [.int i0, .int i1, .retAddr 0] [] μ = (if (i0 + i1) < 0 then jR d 311 8 [.int i0, .int i1, .int (i0 + i1)] [] μ else (if 2147483639 < (i0 + i1) then some (some (.int (i0 + i1)), μ) else some (some (.int 2147483639), μ))) :=
  (l_iload_n (show gPG 311 0 = some (.iload_n 0) by decide +kernel) rfl).trans <|
  (l_iload_n (show gPG 311 1 = some (.iload_n 1) by decide +kernel) rfl).trans <|
  (l_iadd (show gPG 311 2 = some (.iadd) by decide +kernel) ).trans <|
  (l_istore_n (show gPG 311 3 = some (.istore_n 2) by decide +kernel) (ls := [.int i0, .int i1, .retAddr 0]) (show (2 : Nat) < 3 by decide) (show _ = ([.int i0, .int i1, .int (i0 + i1)] : List Value) from rfl)).trans <|
  (l_iload_n (show gPG 311 4 = some (.iload_n 2) by decide +kernel) rfl).trans <|
  (l_cmp0 (show gPG 311 5 = some (.ifCond .ge 44) by decide +kernel) (t := 49) (by decide +kernel)).trans <| jm_ge.trans <| ite_cg (
  rfl) (
  (l_iload_n (show gPG 311 49 = some (.iload_n 2) by decide +kernel) rfl).trans <|
  (l_ldc (show gPG 311 50 = some (.ldc 200) by decide +kernel) (c := 2147483639) (by decide +kernel)).trans <|
  (l_cmp (show gPG 311 52 = some (.if_icmp .gt 6) by decide +kernel) (t := 58) (by decide +kernel)).trans <| jm_gt.trans <| ite_cg (
  (l_iload_n (show gPG 311 58 = some (.iload_n 2) by decide +kernel) rfl).trans <|
  l_iret1 (show gPG 311 59 = some (.ireturn) by decide +kernel) (by decide +kernel)) (
  (l_ldc (show gPG 311 55 = some (.ldc 200) by decide +kernel) (c := 2147483639) (by decide +kernel)).trans <|
  l_iret1 (show gPG 311 57 = some (.ireturn) by decide +kernel) (by decide +kernel)))
-- Preconditions.checkIndex
theorem b312_0 (d : Nat) (μ : jM) (i0 : Int32) (i1 : Int32) (r2 : Value) (h2 : jisref r2 = true) : jR d 312 0 [.int i0, .int i1, r2] [] μ = (if i0 < 0 then jR d 312 9 [.int i0, .int i1, r2] [] μ else (if i0 < i1 then some (some (.int i0), μ) else jR d 312 9 [.int i0, .int i1, r2] [] μ)) :=
  (l_iload_n (show gPG 312 0 = some (.iload_n 0) by decide +kernel) rfl).trans <|
  (l_cmp0 (show gPG 312 1 = some (.ifCond .lt 8) by decide +kernel) (t := 9) (by decide +kernel)).trans <| jm_lt.trans <| ite_cg (
  rfl) (
  (l_iload_n (show gPG 312 4 = some (.iload_n 0) by decide +kernel) rfl).trans <|
  (l_iload_n (show gPG 312 5 = some (.iload_n 1) by decide +kernel) rfl).trans <|
  (l_cmp (show gPG 312 6 = some (.if_icmp .lt 10) by decide +kernel) (t := 16) (by decide +kernel)).trans <| jm_lt.trans <| ite_cg (
  (l_iload_n (show gPG 312 16 = some (.iload_n 0) by decide +kernel) rfl).trans <|
  l_iret1 (show gPG 312 17 = some (.ireturn) by decide +kernel) (by decide +kernel)) (
  rfl))
theorem b312_9 (d : Nat) (μ : jM) (i0 : Int32) (i1 : Int32) (r2 : Value) (h2 : jisref r2 = true) : jR d 312 9 [.int i0, .int i1, r2] [] μ = jR d 312 12 [.int i0, .int i1, r2] [.int i1, .int i0, r2] μ :=
  (l_aload_n (show gPG 312 9 = some (.aload_n 2) by decide +kernel) rfl h2).trans <|
  (l_iload_n (show gPG 312 10 = some (.iload_n 0) by decide +kernel) rfl).trans <|
  l_iload_n (show gPG 312 11 = some (.iload_n 1) by decide +kernel) rfl
