/-! THE BLOCKS of Asking, Board, Clashes, Merging, Rules, Sheet, laid by program -/
-- Asking.init
theorem b58_0 (d : Nat) (μ : jM) (a : Nat) : jR (d + 1) 58 0 [.ref a] [] μ = (jpR ((jnew μ 20 24 24)) 2 2 (.ref a) ((.ref (jsz μ)))).bind fun m1 => (jpR ((jnew m1 20 24 24)) 2 3 (.ref a) ((.ref (jsz m1)))).bind fun m2 => (jpR ((jnew m2 20 960 960)) 2 4 (.ref a) ((.ref (jsz m2)))).bind fun m3 => some (none, m3) :=
  (l_aload_n (show gPG 58 0 = some (.aload_n 0) by decide +kernel) rfl jr_ref).trans <|
  (l_obj (u := 3) (show gPG 58 1 = some (jinvI 3 3) by decide +kernel) (by decide) (q2 := 99) (q3 := 0) (z := 18) (by decide +kernel) (by decide +kernel) cs0 (by decide +kernel)).trans <|
  (l_aload_n (show gPG 58 4 = some (.aload_n 0) by decide +kernel) rfl jr_ref).trans <|
  (l_bipush (show gPG 58 5 = some (.bipush 24) by decide +kernel) (c := 24) (by decide +kernel)).trans <|
  (l_newaK (show gPG 58 7 = some (.newarray .int) by decide +kernel) (kd := 20) (N := 24) rfl (by decide +kernel)).trans <|
  (l_pR (show gPG 58 9 = some (.putfield 9) by decide +kernel) (kd := 2) (sl := 2) (tc := 1) (fin := 1) (z := 0) (by decide +kernel) (by decide +kernel) (by decide +kernel) jr_ref).trans <| bd_cg fun m1 hm1 =>
  (l_aload_n (show gPG 58 12 = some (.aload_n 0) by decide +kernel) rfl jr_ref).trans <|
  (l_bipush (show gPG 58 13 = some (.bipush 24) by decide +kernel) (c := 24) (by decide +kernel)).trans <|
  (l_newaK (show gPG 58 15 = some (.newarray .int) by decide +kernel) (kd := 20) (N := 24) rfl (by decide +kernel)).trans <|
  (l_pR (show gPG 58 17 = some (.putfield 15) by decide +kernel) (kd := 2) (sl := 3) (tc := 1) (fin := 1) (z := 0) (by decide +kernel) (by decide +kernel) (by decide +kernel) jr_ref).trans <| bd_cg fun m2 hm2 =>
  (l_aload_n (show gPG 58 20 = some (.aload_n 0) by decide +kernel) rfl jr_ref).trans <|
  (l_sipush (show gPG 58 21 = some (.sipush 960) by decide +kernel) (c := 960) (by decide +kernel)).trans <|
  (l_newaK (show gPG 58 24 = some (.newarray .int) by decide +kernel) (kd := 20) (N := 960) rfl (by decide +kernel)).trans <|
  (l_pR (show gPG 58 26 = some (.putfield 18) by decide +kernel) (kd := 2) (sl := 4) (tc := 1) (fin := 1) (z := 0) (by decide +kernel) (by decide +kernel) (by decide +kernel) jr_ref).trans <| bd_cg fun m3 hm3 =>
  l_ret (show gPG 58 29 = some (.return_) by decide +kernel) (by decide +kernel)
-- Asking.valueOf
theorem b59_0 (d : Nat) (μ : jM) (a : Nat) (r1 : Value) (i2 : Int32) (i3 : Int32) (h1 : jisref r1 = true) : jR (d + 1) 59 0 [.ref a, r1, .int i2, .int i3] [] μ = (jpR μ 2 0 (.ref a) r1).bind fun m1 => (jpI m1 2 1 0 (.ref a) 0).bind fun m2 => (jpI m2 2 5 0 (.ref a) 0).bind fun m3 => (jgR m3 2 2 (.ref a)).bind fun w4 => (jC d 305 [w4, .int 0] m3).bind fun p5 => jR (d + 1) 59 23 [.ref a, r1, .int i2, .int i3] (p5.1.toList ++ []) p5.2 :=
  (l_aload_n (show gPG 59 0 = some (.aload_n 0) by decide +kernel) rfl jr_ref).trans <|
  (l_aload_n (show gPG 59 1 = some (.aload_n 1) by decide +kernel) rfl h1).trans <|
  (l_pR (show gPG 59 2 = some (.putfield 21) by decide +kernel) (kd := 2) (sl := 0) (tc := 1) (fin := 0) (z := 0) (by decide +kernel) (by decide +kernel) (by decide +kernel) h1).trans <| bd_cg fun m1 hm1 =>
  (l_aload_n (show gPG 59 5 = some (.aload_n 0) by decide +kernel) rfl jr_ref).trans <|
  (l_iconst (show gPG 59 6 = some (.iconst 0) by decide +kernel) (c := 0) (by decide +kernel)).trans <|
  (l_pI (show gPG 59 7 = some (.putfield 25) by decide +kernel) (kd := 2) (sl := 1) (tc := 0) (fin := 0) (z := 0) (by decide +kernel) (by decide +kernel) (by decide +kernel)).trans <| bd_cg fun m2 hm2 =>
  (l_aload_n (show gPG 59 10 = some (.aload_n 0) by decide +kernel) rfl jr_ref).trans <|
  (l_iconst (show gPG 59 11 = some (.iconst 0) by decide +kernel) (c := 0) (by decide +kernel)).trans <|
  (l_pI (show gPG 59 12 = some (.putfield 29) by decide +kernel) (kd := 2) (sl := 5) (tc := 0) (fin := 0) (z := 0) (by decide +kernel) (by decide +kernel) (by decide +kernel)).trans <| bd_cg fun m3 hm3 =>
  (l_aload_n (show gPG 59 15 = some (.aload_n 0) by decide +kernel) rfl jr_ref).trans <|
  (l_gR (show gPG 59 16 = some (.getfield 9) by decide +kernel) (kd := 2) (sl := 2) (tc := 1) (fin := 1) (z := 0) (by decide +kernel) (by decide +kernel) (by decide +kernel)).trans <| bd_cg fun w4 hw4 =>
  (l_iconst (show gPG 59 19 = some (.iconst 0) by decide +kernel) (c := 0) (by decide +kernel)).trans <|
  l_callS (u := 2) (as := [w4, .int 0]) (show gPG 59 20 = some (jinvI 2 32) by decide +kernel) (by decide) (cc := 305) (na := 2) (q4 := 0) (z := 12) (rest := []) (by decide +kernel) (by decide +kernel)  rfl (show (2 : Nat) ≤ 2 by decide) rfl cs0 (by decide +kernel) (cai (cav (jr_gR hw4) ca0)) (fun e => absurd e (by decide))
theorem b59_23 (d : Nat) (μ : jM) (a : Nat) (u1 : Value) (i2 : Int32) (i3 : Int32) : jR (d + 1) 59 23 [.ref a, u1, .int i2, .int i3] [] μ = (if jrecv μ 2 (.ref a) = true then (jC d 60 [.ref a, .int i2, .int i3, .int 0] μ).bind fun p1 => jR (d + 1) 59 30 [.ref a, u1, .int i2, .int i3] (p1.1.toList ++ []) p1.2 else none) :=
  (l_aload_n (show gPG 59 23 = some (.aload_n 0) by decide +kernel) rfl jr_ref).trans <|
  (l_iload_n (show gPG 59 24 = some (.iload_n 2) by decide +kernel) rfl).trans <|
  (l_iload_n (show gPG 59 25 = some (.iload_n 3) by decide +kernel) rfl).trans <|
  (l_iconst (show gPG 59 26 = some (.iconst 0) by decide +kernel) (c := 0) (by decide +kernel)).trans <|
  l_callV (u := 1) (v := .ref a) (as := [.int i2, .int i3, .int 0]) (show gPG 59 27 = some (jinvI 1 38) by decide +kernel) (by decide) (cc := 60) (na := 4) (kd := 2) (q4 := 0) (z := 10) (rest := []) (by decide +kernel) (by decide +kernel)  rfl (show (4 : Nat) ≤ 4 by decide) rfl cs0 (by decide +kernel) (cai (cai (cai (cav jr_ref ca0))))
theorem b59_30 (d : Nat) (μ : jM) (u0 : Value) (u1 : Value) (u2 : Value) (u3 : Value) (s0 : Int32) : jR d 59 30 [u0, u1, u2, u3] [.int s0] μ = some (some (.int s0), μ) :=
  l_iret1 (show gPG 59 30 = some (.ireturn) by decide +kernel) (by decide +kernel)
-- Asking.ask
theorem b60_0 (d : Nat) (μ : jM) (a : Nat) (i1 : Int32) (i2 : Int32) (i3 : Int32) : jR (d + 1) 60 0 [.ref a, .int i1, .int i2, .int i3, .retAddr 0, .retAddr 0] [] μ = (jgR μ 2 0 (.ref a)).bind fun w1 => (if jrecv μ 6 w1 = true then (jC d 88 [w1, .int i1, .int i2] μ).bind fun p2 => jR (d + 1) 60 9 [.ref a, .int i1, .int i2, .int i3, .retAddr 0, .retAddr 0] (p2.1.toList ++ []) p2.2 else none) :=
  (l_aload_n (show gPG 60 0 = some (.aload_n 0) by decide +kernel) rfl jr_ref).trans <|
  (l_gR (show gPG 60 1 = some (.getfield 21) by decide +kernel) (kd := 2) (sl := 0) (tc := 1) (fin := 0) (z := 0) (by decide +kernel) (by decide +kernel) (by decide +kernel)).trans <| bd_cg fun w1 hw1 =>
  (l_iload_n (show gPG 60 4 = some (.iload_n 1) by decide +kernel) rfl).trans <|
  (l_iload_n (show gPG 60 5 = some (.iload_n 2) by decide +kernel) rfl).trans <|
  l_callV (u := 1) (v := w1) (as := [.int i1, .int i2]) (show gPG 60 6 = some (jinvI 1 42) by decide +kernel) (by decide) (cc := 88) (na := 3) (kd := 6) (q4 := 0) (z := 11) (rest := []) (by decide +kernel) (by decide +kernel)  rfl (show (3 : Nat) ≤ 3 by decide) rfl cs0 (by decide +kernel) (cai (cai (cav (jr_gR hw1) ca0)))
theorem b60_9 (d : Nat) (μ : jM) (a : Nat) (u1 : Value) (u2 : Value) (i3 : Int32) (u4 : Value) (u5 : Value) (s0 : Int32) : jR (d + 1) 60 9 [.ref a, u1, u2, .int i3, u4, u5] [.int s0] μ = (if s0 = (-1) then some (some (.int 0), μ) else (jgR μ 2 2 (.ref a)).bind fun w1 => (jaI μ w1 s0).bind fun x2 => (if x2 = 1 then jR (d + 1) 60 36 [.ref a, u1, u2, .int i3, .int s0, u5] [] μ else (if 24 < i3 then jR (d + 1) 60 36 [.ref a, u1, u2, .int i3, .int s0, u5] [] μ else (jgR μ 2 2 (.ref a)).bind fun w3 => (jaI μ w3 s0).bind fun x4 => (if x4 = 2 then jR (d + 1) 60 115 [.ref a, u1, u2, .int i3, .int s0, u5] [] μ else (jgR μ 2 2 (.ref a)).bind fun w5 => (jsI μ w5 s0 1).bind fun m6 => (jgR m6 2 0 (.ref a)).bind fun w7 => (jgR m6 6 4 w7).bind fun w8 => (jaR m6 w8 s0).bind fun w9 => (jgR m6 2 3 (.ref a)).bind fun w10 => (if jun w9 = none then (jgR m6 2 0 (.ref a)).bind fun w12 => (jgR m6 6 3 w12).bind fun w13 => (jaI m6 w13 s0).bind fun x14 => jR (d + 1) 60 106 [.ref a, u1, u2, .int i3, .int s0, w9] [.int x14, .int s0, w10] m6 else (if jrecv m6 2 (.ref a) = true then (jC d 61 [.ref a, w9, .int i3] m6).bind fun p11 => jR (d + 1) 60 106 [.ref a, u1, u2, .int i3, .int s0, w9] (p11.1.toList ++ [.int s0, w10]) p11.2 else none)))))) :=
  (l_istore (show gPG 60 9 = some (.istore 4) by decide +kernel) (ls := [.ref a, u1, u2, .int i3, u4, u5]) (show (4 : Nat) < 6 by decide) (show _ = ([.ref a, u1, u2, .int i3, .int s0, u5] : List Value) from rfl)).trans <|
  (l_iload (show gPG 60 11 = some (.iload 4) by decide +kernel) rfl).trans <|
  (l_iconst (show gPG 60 13 = some (.iconst (-1)) by decide +kernel) (c := (-1)) (by decide +kernel)).trans <|
  (l_cmp (show gPG 60 14 = some (.if_icmp .ne 5) by decide +kernel) (t := 19) (by decide +kernel)).trans <| jm_ne.trans <| ite_cg (
  (l_iconst (show gPG 60 17 = some (.iconst 0) by decide +kernel) (c := 0) (by decide +kernel)).trans <|
  l_iret1 (show gPG 60 18 = some (.ireturn) by decide +kernel) (by decide +kernel)) (
  (l_aload_n (show gPG 60 19 = some (.aload_n 0) by decide +kernel) rfl jr_ref).trans <|
  (l_gR (show gPG 60 20 = some (.getfield 9) by decide +kernel) (kd := 2) (sl := 2) (tc := 1) (fin := 1) (z := 0) (by decide +kernel) (by decide +kernel) (by decide +kernel)).trans <| bd_cg fun w1 hw1 =>
  (l_iload (show gPG 60 23 = some (.iload 4) by decide +kernel) rfl).trans <|
  (l_iald (show gPG 60 25 = some (.iaload) by decide +kernel) ).trans <| bd_cg fun x2 hx2 =>
  (l_iconst (show gPG 60 26 = some (.iconst 1) by decide +kernel) (c := 1) (by decide +kernel)).trans <|
  (l_cmp (show gPG 60 27 = some (.if_icmp .eq 9) by decide +kernel) (t := 36) (by decide +kernel)).trans <| jm_eq.trans <| ite_cg (
  rfl) (
  (l_iload_n (show gPG 60 30 = some (.iload_n 3) by decide +kernel) rfl).trans <|
  (l_bipush (show gPG 60 31 = some (.bipush 24) by decide +kernel) (c := 24) (by decide +kernel)).trans <|
  (l_cmp (show gPG 60 33 = some (.if_icmp .le 11) by decide +kernel) (t := 44) (by decide +kernel)).trans <| jm_le.trans <| ite_cg (
  rfl) (
  (l_aload_n (show gPG 60 44 = some (.aload_n 0) by decide +kernel) rfl jr_ref).trans <|
  (l_gR (show gPG 60 45 = some (.getfield 9) by decide +kernel) (kd := 2) (sl := 2) (tc := 1) (fin := 1) (z := 0) (by decide +kernel) (by decide +kernel) (by decide +kernel)).trans <| bd_cg fun w3 hw3 =>
  (l_iload (show gPG 60 48 = some (.iload 4) by decide +kernel) rfl).trans <|
  (l_iald (show gPG 60 50 = some (.iaload) by decide +kernel) ).trans <| bd_cg fun x4 hx4 =>
  (l_iconst (show gPG 60 51 = some (.iconst 2) by decide +kernel) (c := 2) (by decide +kernel)).trans <|
  (l_cmp (show gPG 60 52 = some (.if_icmp .eq 63) by decide +kernel) (t := 115) (by decide +kernel)).trans <| jm_eq.trans <| ite_cg (
  rfl) (
  (l_aload_n (show gPG 60 55 = some (.aload_n 0) by decide +kernel) rfl jr_ref).trans <|
  (l_gR (show gPG 60 56 = some (.getfield 9) by decide +kernel) (kd := 2) (sl := 2) (tc := 1) (fin := 1) (z := 0) (by decide +kernel) (by decide +kernel) (by decide +kernel)).trans <| bd_cg fun w5 hw5 =>
  (l_iload (show gPG 60 59 = some (.iload 4) by decide +kernel) rfl).trans <|
  (l_iconst (show gPG 60 61 = some (.iconst 1) by decide +kernel) (c := 1) (by decide +kernel)).trans <|
  (l_iast (show gPG 60 62 = some (.iastore) by decide +kernel) ).trans <| bd_cg fun m6 hm6 =>
  (l_aload_n (show gPG 60 63 = some (.aload_n 0) by decide +kernel) rfl jr_ref).trans <|
  (l_gR (show gPG 60 64 = some (.getfield 21) by decide +kernel) (kd := 2) (sl := 0) (tc := 1) (fin := 0) (z := 0) (by decide +kernel) (by decide +kernel) (by decide +kernel)).trans <| bd_cg fun w7 hw7 =>
  (l_gR (show gPG 60 67 = some (.getfield 48) by decide +kernel) (kd := 6) (sl := 4) (tc := 1) (fin := 1) (z := 1) (by decide +kernel) (by decide +kernel) (by decide +kernel)).trans <| bd_cg fun w8 hw8 =>
  (l_iload (show gPG 60 70 = some (.iload 4) by decide +kernel) rfl).trans <|
  (l_aald (show gPG 60 72 = some (.aaload) by decide +kernel) ).trans <| bd_cg fun w9 hw9 =>
  (l_astore (show gPG 60 73 = some (.astore 5) by decide +kernel) (ls := [.ref a, u1, u2, .int i3, .int s0, u5]) (jr_aR hw9) (show (5 : Nat) < 6 by decide) (show _ = ([.ref a, u1, u2, .int i3, .int s0, w9] : List Value) from rfl)).trans <|
  (l_aload_n (show gPG 60 75 = some (.aload_n 0) by decide +kernel) rfl jr_ref).trans <|
  (l_gR (show gPG 60 76 = some (.getfield 15) by decide +kernel) (kd := 2) (sl := 3) (tc := 1) (fin := 1) (z := 0) (by decide +kernel) (by decide +kernel) (by decide +kernel)).trans <| bd_cg fun w10 hw10 =>
  (l_iload (show gPG 60 79 = some (.iload 4) by decide +kernel) rfl).trans <|
  (l_aload (show gPG 60 81 = some (.aload 5) by decide +kernel) rfl (jr_aR hw9)).trans <|
  (l_ifnonnull (show gPG 60 83 = some (.ifnonnull 16) by decide +kernel) (jr_aR hw9) (t := 99) (by decide +kernel)).trans <| ite_cg (
  (l_aload_n (show gPG 60 86 = some (.aload_n 0) by decide +kernel) rfl jr_ref).trans <|
  (l_gR (show gPG 60 87 = some (.getfield 21) by decide +kernel) (kd := 2) (sl := 0) (tc := 1) (fin := 0) (z := 0) (by decide +kernel) (by decide +kernel) (by decide +kernel)).trans <| bd_cg fun w12 hw12 =>
  (l_gR (show gPG 60 90 = some (.getfield 52) by decide +kernel) (kd := 6) (sl := 3) (tc := 1) (fin := 1) (z := 1) (by decide +kernel) (by decide +kernel) (by decide +kernel)).trans <| bd_cg fun w13 hw13 =>
  (l_iload (show gPG 60 93 = some (.iload 4) by decide +kernel) rfl).trans <|
  (l_iald (show gPG 60 95 = some (.iaload) by decide +kernel) ).trans <| bd_cg fun x14 hx14 =>
  l_goto (show gPG 60 96 = some (.goto 10) by decide +kernel) (t := 106) (by decide +kernel)) (
  (l_aload_n (show gPG 60 99 = some (.aload_n 0) by decide +kernel) rfl jr_ref).trans <|
  (l_aload (show gPG 60 100 = some (.aload 5) by decide +kernel) rfl (jr_aR hw9)).trans <|
  (l_iload_n (show gPG 60 102 = some (.iload_n 3) by decide +kernel) rfl).trans <|
  l_callV (u := 1) (v := .ref a) (as := [w9, .int i3]) (show gPG 60 103 = some (jinvI 1 55) by decide +kernel) (by decide) (cc := 61) (na := 3) (kd := 2) (q4 := 0) (z := 10) (rest := [.int s0, w10]) (by decide +kernel) (by decide +kernel)  rfl (show (3 : Nat) ≤ 5 by decide) rfl (csi (csv (jr_gR hw10) cs0)) (by decide +kernel) (cai (cav (jr_aR hw9) (cav jr_ref ca0))))))))
theorem b60_36 (d : Nat) (μ : jM) (a : Nat) (u1 : Value) (u2 : Value) (u3 : Value) (u4 : Value) (u5 : Value) : jR d 60 36 [.ref a, u1, u2, u3, u4, u5] [] μ = (jpI μ 2 1 0 (.ref a) (-6)).bind fun m1 => some (some (.int 0), m1) :=
  (l_aload_n (show gPG 60 36 = some (.aload_n 0) by decide +kernel) rfl jr_ref).trans <|
  (l_bipush (show gPG 60 37 = some (.bipush (-6)) by decide +kernel) (c := (-6)) (by decide +kernel)).trans <|
  (l_pI (show gPG 60 39 = some (.putfield 25) by decide +kernel) (kd := 2) (sl := 1) (tc := 0) (fin := 0) (z := 0) (by decide +kernel) (by decide +kernel) (by decide +kernel)).trans <| bd_cg fun m1 hm1 =>
  (l_iconst (show gPG 60 42 = some (.iconst 0) by decide +kernel) (c := 0) (by decide +kernel)).trans <|
  l_iret1 (show gPG 60 43 = some (.ireturn) by decide +kernel) (by decide +kernel)
theorem b60_106 (d : Nat) (μ : jM) (a : Nat) (u1 : Value) (u2 : Value) (u3 : Value) (i4 : Int32) (u5 : Value) (s0 : Value) (s1 : Int32) (s2 : Int32) (hs0 : jisref s0 = true) : jR d 60 106 [.ref a, u1, u2, u3, .int i4, u5] [.int s2, .int s1, s0] μ = (jsI μ s0 s1 s2).bind fun m1 => (jgR m1 2 2 (.ref a)).bind fun w2 => (jsI m1 w2 i4 2).bind fun m3 => jR d 60 115 [.ref a, u1, u2, u3, .int i4, u5] [] m3 :=
  (l_iast (show gPG 60 106 = some (.iastore) by decide +kernel) ).trans <| bd_cg fun m1 hm1 =>
  (l_aload_n (show gPG 60 107 = some (.aload_n 0) by decide +kernel) rfl jr_ref).trans <|
  (l_gR (show gPG 60 108 = some (.getfield 9) by decide +kernel) (kd := 2) (sl := 2) (tc := 1) (fin := 1) (z := 0) (by decide +kernel) (by decide +kernel) (by decide +kernel)).trans <| bd_cg fun w2 hw2 =>
  (l_iload (show gPG 60 111 = some (.iload 4) by decide +kernel) rfl).trans <|
  (l_iconst (show gPG 60 113 = some (.iconst 2) by decide +kernel) (c := 2) (by decide +kernel)).trans <|
  (l_iast (show gPG 60 114 = some (.iastore) by decide +kernel) ).trans <| bd_cg fun m3 hm3 =>
  rfl
theorem b60_115 (d : Nat) (μ : jM) (a : Nat) (u1 : Value) (u2 : Value) (u3 : Value) (i4 : Int32) (u5 : Value) : jR d 60 115 [.ref a, u1, u2, u3, .int i4, u5] [] μ = (jgR μ 2 3 (.ref a)).bind fun w1 => (jaI μ w1 i4).bind fun x2 => some (some (.int x2), μ) :=
  (l_aload_n (show gPG 60 115 = some (.aload_n 0) by decide +kernel) rfl jr_ref).trans <|
  (l_gR (show gPG 60 116 = some (.getfield 15) by decide +kernel) (kd := 2) (sl := 3) (tc := 1) (fin := 1) (z := 0) (by decide +kernel) (by decide +kernel) (by decide +kernel)).trans <| bd_cg fun w1 hw1 =>
  (l_iload (show gPG 60 119 = some (.iload 4) by decide +kernel) rfl).trans <|
  (l_iald (show gPG 60 121 = some (.iaload) by decide +kernel) ).trans <| bd_cg fun x2 hx2 =>
  l_iret1 (show gPG 60 122 = some (.ireturn) by decide +kernel) (by decide +kernel)
-- Asking.workOut
theorem b61_0 (d : Nat) (μ : jM) (a : Nat) (r1 : Value) (i2 : Int32) (h1 : jisref r1 = true) : jR d 61 0 [.ref a, r1, .int i2, .retAddr 0, .retAddr 0, .retAddr 0] [] μ = (jgI μ 2 5 (.ref a)).bind fun x1 => jR d 61 8 [.ref a, r1, .int i2, .int x1, .int 0, .retAddr 0] [] μ :=
  (l_aload_n (show gPG 61 0 = some (.aload_n 0) by decide +kernel) rfl jr_ref).trans <|
  (l_gI (show gPG 61 1 = some (.getfield 29) by decide +kernel) (kd := 2) (sl := 5) (tc := 0) (fin := 0) (z := 0) (by decide +kernel) (by decide +kernel) (by decide +kernel)).trans <| bd_cg fun x1 hx1 =>
  (l_istore_n (show gPG 61 4 = some (.istore_n 3) by decide +kernel) (ls := [.ref a, r1, .int i2, .retAddr 0, .retAddr 0, .retAddr 0]) (show (3 : Nat) < 6 by decide) (show _ = ([.ref a, r1, .int i2, .int x1, .retAddr 0, .retAddr 0] : List Value) from rfl)).trans <|
  (l_iconst (show gPG 61 5 = some (.iconst 0) by decide +kernel) (c := 0) (by decide +kernel)).trans <|
  l_istore (show gPG 61 6 = some (.istore 4) by decide +kernel) (ls := [.ref a, r1, .int i2, .int x1, .retAddr 0, .retAddr 0]) (show (4 : Nat) < 6 by decide) (show _ = ([.ref a, r1, .int i2, .int x1, .int 0, .retAddr 0] : List Value) from rfl)
theorem b61_8 (d : Nat) (μ : jM) (a : Nat) (r1 : Value) (i2 : Int32) (i3 : Int32) (i4 : Int32) (u5 : Value) (h1 : jisref r1 = true) : jR (d + 1) 61 8 [.ref a, r1, .int i2, .int i3, .int i4, u5] [] μ = (jgR μ 5 3 r1).bind fun w1 => (jal μ w1).bind fun x2 => (if i4 < x2 then (jgI μ 2 1 (.ref a)).bind fun x3 => (if x3 = 0 then (jgR μ 5 3 r1).bind fun w4 => (jaI μ w4 i4).bind fun x5 => (if x5 < 0 then jR (d + 1) 61 57 [.ref a, r1, .int i2, .int i3, .int i4, .int x5] [] μ else (jgR μ 5 0 r1).bind fun w6 => (jal μ w6).bind fun x7 => (if x5 < x7 then (if jrecv μ 2 (.ref a) = true then (jC d 62 [.ref a, r1, .int x5, .int i2] μ).bind fun p8 => jR (d + 1) 61 57 [.ref a, r1, .int i2, .int i3, .int i4, .int x5] (p8.1.toList ++ []) p8.2 else none) else jR (d + 1) 61 57 [.ref a, r1, .int i2, .int i3, .int i4, .int x5] [] μ)) else jR (d + 1) 61 63 [.ref a, r1, .int i2, .int i3, .int i4, u5] [] μ) else jR (d + 1) 61 63 [.ref a, r1, .int i2, .int i3, .int i4, u5] [] μ) :=
  (l_iload (show gPG 61 8 = some (.iload 4) by decide +kernel) rfl).trans <|
  (l_aload_n (show gPG 61 10 = some (.aload_n 1) by decide +kernel) rfl h1).trans <|
  (l_gR (show gPG 61 11 = some (.getfield 59) by decide +kernel) (kd := 5) (sl := 3) (tc := 1) (fin := 1) (z := 1) (by decide +kernel) (by decide +kernel) (by decide +kernel)).trans <| bd_cg fun w1 hw1 =>
  (l_alen (show gPG 61 14 = some (.arraylength) by decide +kernel) ).trans <| bd_cg fun x2 hx2 =>
  (l_cmp (show gPG 61 15 = some (.if_icmp .ge 48) by decide +kernel) (t := 63) (by decide +kernel)).trans <| jm_ge.trans <| ite_cg (
  (l_aload_n (show gPG 61 18 = some (.aload_n 0) by decide +kernel) rfl jr_ref).trans <|
  (l_gI (show gPG 61 19 = some (.getfield 25) by decide +kernel) (kd := 2) (sl := 1) (tc := 0) (fin := 0) (z := 0) (by decide +kernel) (by decide +kernel) (by decide +kernel)).trans <| bd_cg fun x3 hx3 =>
  (l_cmp0 (show gPG 61 22 = some (.ifCond .ne 41) by decide +kernel) (t := 63) (by decide +kernel)).trans <| jm_ne.trans <| ite_cg (
  (l_aload_n (show gPG 61 25 = some (.aload_n 1) by decide +kernel) rfl h1).trans <|
  (l_gR (show gPG 61 26 = some (.getfield 59) by decide +kernel) (kd := 5) (sl := 3) (tc := 1) (fin := 1) (z := 1) (by decide +kernel) (by decide +kernel) (by decide +kernel)).trans <| bd_cg fun w4 hw4 =>
  (l_iload (show gPG 61 29 = some (.iload 4) by decide +kernel) rfl).trans <|
  (l_iald (show gPG 61 31 = some (.iaload) by decide +kernel) ).trans <| bd_cg fun x5 hx5 =>
  (l_istore (show gPG 61 32 = some (.istore 5) by decide +kernel) (ls := [.ref a, r1, .int i2, .int i3, .int i4, u5]) (show (5 : Nat) < 6 by decide) (show _ = ([.ref a, r1, .int i2, .int i3, .int i4, .int x5] : List Value) from rfl)).trans <|
  (l_iload (show gPG 61 34 = some (.iload 5) by decide +kernel) rfl).trans <|
  (l_cmp0 (show gPG 61 36 = some (.ifCond .lt 21) by decide +kernel) (t := 57) (by decide +kernel)).trans <| jm_lt.trans <| ite_cg (
  rfl) (
  (l_iload (show gPG 61 39 = some (.iload 5) by decide +kernel) rfl).trans <|
  (l_aload_n (show gPG 61 41 = some (.aload_n 1) by decide +kernel) rfl h1).trans <|
  (l_gR (show gPG 61 42 = some (.getfield 64) by decide +kernel) (kd := 5) (sl := 0) (tc := 1) (fin := 1) (z := 1) (by decide +kernel) (by decide +kernel) (by decide +kernel)).trans <| bd_cg fun w6 hw6 =>
  (l_alen (show gPG 61 45 = some (.arraylength) by decide +kernel) ).trans <| bd_cg fun x7 hx7 =>
  (l_cmp (show gPG 61 46 = some (.if_icmp .ge 11) by decide +kernel) (t := 57) (by decide +kernel)).trans <| jm_ge.trans <| ite_cg (
  (l_aload_n (show gPG 61 49 = some (.aload_n 0) by decide +kernel) rfl jr_ref).trans <|
  (l_aload_n (show gPG 61 50 = some (.aload_n 1) by decide +kernel) rfl h1).trans <|
  (l_iload (show gPG 61 51 = some (.iload 5) by decide +kernel) rfl).trans <|
  (l_iload_n (show gPG 61 53 = some (.iload_n 2) by decide +kernel) rfl).trans <|
  l_callV (u := 1) (v := .ref a) (as := [r1, .int x5, .int i2]) (show gPG 61 54 = some (jinvI 1 67) by decide +kernel) (by decide) (cc := 62) (na := 4) (kd := 2) (q4 := 0) (z := 10) (rest := []) (by decide +kernel) (by decide +kernel)  rfl (show (4 : Nat) ≤ 4 by decide) rfl cs0 (by decide +kernel) (cai (cai (cav h1 (cav jr_ref ca0))))) (
  rfl))) (
  rfl)) (
  rfl)
theorem b61_57 (d : Nat) (μ : jM) (a : Nat) (r1 : Value) (i2 : Int32) (i3 : Int32) (i4 : Int32) (u5 : Value) (h1 : jisref r1 = true) : jR d 61 57 [.ref a, r1, .int i2, .int i3, .int i4, u5] [] μ = jR d 61 8 [.ref a, r1, .int i2, .int i3, .int (i4 + 1), u5] [] μ :=
  (l_iinc (show gPG 61 57 = some (.iinc 4 1) by decide +kernel) (c := 1) (by decide +kernel) rfl (show _ = ([.ref a, r1, .int i2, .int i3, .int (i4 + 1), u5] : List Value) from rfl)).trans <|
  l_goto (show gPG 61 60 = some (.goto (-52)) by decide +kernel) (t := 8) (by decide +kernel)
theorem b61_63 (d : Nat) (μ : jM) (a : Nat) (u1 : Value) (u2 : Value) (i3 : Int32) (u4 : Value) (u5 : Value) : jR (d + 1) 61 63 [.ref a, u1, u2, .int i3, u4, u5] [] μ = (jgI μ 2 1 (.ref a)).bind fun x1 => (if x1 = 0 then (jgI μ 2 5 (.ref a)).bind fun x2 => (if i3 < x2 then (if jrecv μ 2 (.ref a) = true then (jC d 65 [.ref a] μ).bind fun p3 => jR (d + 1) 61 82 [.ref a, u1, u2, .int i3, u4, u5] (p3.1.toList ++ []) p3.2 else none) else jR (d + 1) 61 85 [.ref a, u1, u2, .int i3, u4, u5] [] μ) else jR (d + 1) 61 85 [.ref a, u1, u2, .int i3, u4, u5] [] μ) :=
  (l_aload_n (show gPG 61 63 = some (.aload_n 0) by decide +kernel) rfl jr_ref).trans <|
  (l_gI (show gPG 61 64 = some (.getfield 25) by decide +kernel) (kd := 2) (sl := 1) (tc := 0) (fin := 0) (z := 0) (by decide +kernel) (by decide +kernel) (by decide +kernel)).trans <| bd_cg fun x1 hx1 =>
  (l_cmp0 (show gPG 61 67 = some (.ifCond .ne 18) by decide +kernel) (t := 85) (by decide +kernel)).trans <| jm_ne.trans <| ite_cg (
  (l_aload_n (show gPG 61 70 = some (.aload_n 0) by decide +kernel) rfl jr_ref).trans <|
  (l_gI (show gPG 61 71 = some (.getfield 29) by decide +kernel) (kd := 2) (sl := 5) (tc := 0) (fin := 0) (z := 0) (by decide +kernel) (by decide +kernel) (by decide +kernel)).trans <| bd_cg fun x2 hx2 =>
  (l_iload_n (show gPG 61 74 = some (.iload_n 3) by decide +kernel) rfl).trans <|
  (l_cmp (show gPG 61 75 = some (.if_icmp .le 10) by decide +kernel) (t := 85) (by decide +kernel)).trans <| jm_le.trans <| ite_cg (
  (l_aload_n (show gPG 61 78 = some (.aload_n 0) by decide +kernel) rfl jr_ref).trans <|
  l_callV (u := 1) (v := .ref a) (as := []) (show gPG 61 79 = some (jinvI 1 71) by decide +kernel) (by decide) (cc := 65) (na := 1) (kd := 2) (q4 := 0) (z := 10) (rest := []) (by decide +kernel) (by decide +kernel)  rfl (show (1 : Nat) ≤ 1 by decide) rfl cs0 (by decide +kernel) (cav jr_ref ca0)) (
  rfl)) (
  rfl)
theorem b61_82 (d : Nat) (μ : jM) (a : Nat) (u1 : Value) (u2 : Value) (i3 : Int32) (u4 : Value) (u5 : Value) (s0 : Int32) : jR d 61 82 [.ref a, u1, u2, .int i3, u4, u5] [.int s0] μ = jR d 61 86 [.ref a, u1, u2, .int i3, u4, u5] [.int s0] μ :=
  l_goto (show gPG 61 82 = some (.goto 4) by decide +kernel) (t := 86) (by decide +kernel)
theorem b61_85 (d : Nat) (μ : jM) (a : Nat) (u1 : Value) (u2 : Value) (i3 : Int32) (u4 : Value) (u5 : Value) : jR d 61 85 [.ref a, u1, u2, .int i3, u4, u5] [] μ = jR d 61 86 [.ref a, u1, u2, .int i3, u4, u5] [.int 0] μ :=
  l_iconst (show gPG 61 85 = some (.iconst 0) by decide +kernel) (c := 0) (by decide +kernel)
theorem b61_86 (d : Nat) (μ : jM) (a : Nat) (u1 : Value) (u2 : Value) (i3 : Int32) (u4 : Value) (u5 : Value) (s0 : Int32) : jR d 61 86 [.ref a, u1, u2, .int i3, u4, u5] [.int s0] μ = (jpI μ 2 5 0 (.ref a) i3).bind fun m1 => some (some (.int s0), m1) :=
  (l_istore (show gPG 61 86 = some (.istore 4) by decide +kernel) (ls := [.ref a, u1, u2, .int i3, u4, u5]) (show (4 : Nat) < 6 by decide) (show _ = ([.ref a, u1, u2, .int i3, .int s0, u5] : List Value) from rfl)).trans <|
  (l_aload_n (show gPG 61 88 = some (.aload_n 0) by decide +kernel) rfl jr_ref).trans <|
  (l_iload_n (show gPG 61 89 = some (.iload_n 3) by decide +kernel) rfl).trans <|
  (l_pI (show gPG 61 90 = some (.putfield 29) by decide +kernel) (kd := 2) (sl := 5) (tc := 0) (fin := 0) (z := 0) (by decide +kernel) (by decide +kernel) (by decide +kernel)).trans <| bd_cg fun m1 hm1 =>
  (l_iload (show gPG 61 93 = some (.iload 4) by decide +kernel) rfl).trans <|
  l_iret1 (show gPG 61 95 = some (.ireturn) by decide +kernel) (by decide +kernel)
-- Asking.step
theorem sw62_6 (x : Int32) : ((jsw (.lookupswitch 154 #[(42, 138), (43, 105), (45, 121), (48, 66), (103, 93), (114, 79), (115, 79)]) x).bind fun o => jtgt 6 o) = if x = 42 then some 144 else if x = 43 then some 111 else if x = 45 then some 127 else if x = 48 then some 72 else if x = 103 then some 99 else if x = 114 then some 85 else if x = 115 then some 85 else some 160 := by
  by_cases h0 : x = 42
  · subst h0; decide +kernel
  by_cases h1 : x = 43
  · subst h1; decide +kernel
  by_cases h2 : x = 45
  · subst h2; decide +kernel
  by_cases h3 : x = 48
  · subst h3; decide +kernel
  by_cases h4 : x = 103
  · subst h4; decide +kernel
  by_cases h5 : x = 114
  · subst h5; decide +kernel
  by_cases h6 : x = 115
  · subst h6; decide +kernel
  have g0 : x.toInt ≠ 42 := fun e => h0 (Int32.toInt_inj.mp (e.trans (by decide +kernel)))
  have g1 : x.toInt ≠ 43 := fun e => h1 (Int32.toInt_inj.mp (e.trans (by decide +kernel)))
  have g2 : x.toInt ≠ 45 := fun e => h2 (Int32.toInt_inj.mp (e.trans (by decide +kernel)))
  have g3 : x.toInt ≠ 48 := fun e => h3 (Int32.toInt_inj.mp (e.trans (by decide +kernel)))
  have g4 : x.toInt ≠ 103 := fun e => h4 (Int32.toInt_inj.mp (e.trans (by decide +kernel)))
  have g5 : x.toInt ≠ 114 := fun e => h5 (Int32.toInt_inj.mp (e.trans (by decide +kernel)))
  have g6 : x.toInt ≠ 115 := fun e => h6 (Int32.toInt_inj.mp (e.trans (by decide +kernel)))
  have e : jsw (.lookupswitch 154 #[(42, 138), (43, 105), (45, 121), (48, 66), (103, 93), (114, 79), (115, 79)]) x = some 154 := by
    simp only [jsw]
    rw [if_pos (by decide +kernel)]
    simp [Op.lookupswitch.offset, Ne.symm g0, g0, Ne.symm g1, g1, Ne.symm g2, g2, Ne.symm g3, g3, Ne.symm g4, g4, Ne.symm g5, g5, Ne.symm g6, g6]
  rw [e]
  simp only [Option.bind_some, h0, if_false, h1, if_false, h2, if_false, h3, if_false, h4, if_false, h5, if_false, h6, if_false]
  decide +kernel
theorem b62_0 (d : Nat) (μ : jM) (a : Nat) (r1 : Value) (i2 : Int32) (i3 : Int32) (h1 : jisref r1 = true) : jR (d + 1) 62 0 [.ref a, r1, .int i2, .int i3] [] μ = (jgR μ 5 0 r1).bind fun w1 => (jaI μ w1 i2).bind fun x2 => (if x2 = 42 then (if jrecv μ 2 (.ref a) = true then (jC d 65 [.ref a] μ).bind fun p3 => jR (d + 1) 62 149 [.ref a, r1, .int i2, .int i3] (p3.1.toList ++ [.ref a]) p3.2 else none) else (if x2 = 43 then (if jrecv μ 2 (.ref a) = true then (jC d 65 [.ref a] μ).bind fun p4 => jR (d + 1) 62 116 [.ref a, r1, .int i2, .int i3] (p4.1.toList ++ [.ref a]) p4.2 else none) else (if x2 = 45 then (if jrecv μ 2 (.ref a) = true then (jC d 65 [.ref a] μ).bind fun p5 => jR (d + 1) 62 132 [.ref a, r1, .int i2, .int i3] (p5.1.toList ++ [.ref a]) p5.2 else none) else (if x2 = 48 then (jgR μ 5 1 r1).bind fun w6 => (jaI μ w6 i2).bind fun x7 => (if jrecv μ 2 (.ref a) = true then (jC d 63 [.ref a, .int x7] μ).bind fun p8 => jR (d + 1) 62 82 [.ref a, r1, .int i2, .int i3] (p8.1.toList ++ []) p8.2 else none) else (if x2 = 103 then (if jrecv μ 2 (.ref a) = true then (jC d 65 [.ref a] μ).bind fun p9 => jR (d + 1) 62 104 [.ref a, r1, .int i2, .int i3] (p9.1.toList ++ [.ref a]) p9.2 else none) else (if x2 = 114 then (if jrecv μ 2 (.ref a) = true then (jC d 64 [.ref a, r1, .int i2, .int i3] μ).bind fun p10 => jR (d + 1) 62 93 [.ref a, r1, .int i2, .int i3] (p10.1.toList ++ [.ref a]) p10.2 else none) else (if x2 = 115 then (if jrecv μ 2 (.ref a) = true then (jC d 64 [.ref a, r1, .int i2, .int i3] μ).bind fun p11 => jR (d + 1) 62 93 [.ref a, r1, .int i2, .int i3] (p11.1.toList ++ [.ref a]) p11.2 else none) else (if jrecv μ 2 (.ref a) = true then (jC d 66 [.ref a, r1, .int i2, .int i3] μ).bind fun p12 => jR (d + 1) 62 168 [.ref a, r1, .int i2, .int i3] (p12.1.toList ++ [.ref a]) p12.2 else none)))))))) :=
  (l_aload_n (show gPG 62 0 = some (.aload_n 1) by decide +kernel) rfl h1).trans <|
  (l_gR (show gPG 62 1 = some (.getfield 64) by decide +kernel) (kd := 5) (sl := 0) (tc := 1) (fin := 1) (z := 1) (by decide +kernel) (by decide +kernel) (by decide +kernel)).trans <| bd_cg fun w1 hw1 =>
  (l_iload_n (show gPG 62 4 = some (.iload_n 2) by decide +kernel) rfl).trans <|
  (l_iald (show gPG 62 5 = some (.iaload) by decide +kernel) ).trans <| bd_cg fun x2 hx2 =>
  (l_lsw (show gPG 62 6 = some (.lookupswitch 154 #[(42, 138), (43, 105), (45, 121), (48, 66), (103, 93), (114, 79), (115, 79)]) by decide +kernel) sw62_6).trans <| ite_bd (
  (l_aload_n (show gPG 62 144 = some (.aload_n 0) by decide +kernel) rfl jr_ref).trans <|
  (l_aload_n (show gPG 62 145 = some (.aload_n 0) by decide +kernel) rfl jr_ref).trans <|
  l_callV (u := 1) (v := .ref a) (as := []) (show gPG 62 146 = some (jinvI 1 71) by decide +kernel) (by decide) (cc := 65) (na := 1) (kd := 2) (q4 := 0) (z := 10) (rest := [.ref a]) (by decide +kernel) (by decide +kernel)  rfl (show (1 : Nat) ≤ 2 by decide) rfl (csv jr_ref cs0) (by decide +kernel) (cav jr_ref ca0)) (
  ite_bd (
  (l_aload_n (show gPG 62 111 = some (.aload_n 0) by decide +kernel) rfl jr_ref).trans <|
  (l_aload_n (show gPG 62 112 = some (.aload_n 0) by decide +kernel) rfl jr_ref).trans <|
  l_callV (u := 1) (v := .ref a) (as := []) (show gPG 62 113 = some (jinvI 1 71) by decide +kernel) (by decide) (cc := 65) (na := 1) (kd := 2) (q4 := 0) (z := 10) (rest := [.ref a]) (by decide +kernel) (by decide +kernel)  rfl (show (1 : Nat) ≤ 2 by decide) rfl (csv jr_ref cs0) (by decide +kernel) (cav jr_ref ca0)) (
  ite_bd (
  (l_aload_n (show gPG 62 127 = some (.aload_n 0) by decide +kernel) rfl jr_ref).trans <|
  (l_aload_n (show gPG 62 128 = some (.aload_n 0) by decide +kernel) rfl jr_ref).trans <|
  l_callV (u := 1) (v := .ref a) (as := []) (show gPG 62 129 = some (jinvI 1 71) by decide +kernel) (by decide) (cc := 65) (na := 1) (kd := 2) (q4 := 0) (z := 10) (rest := [.ref a]) (by decide +kernel) (by decide +kernel)  rfl (show (1 : Nat) ≤ 2 by decide) rfl (csv jr_ref cs0) (by decide +kernel) (cav jr_ref ca0)) (
  ite_bd (
  (l_aload_n (show gPG 62 72 = some (.aload_n 0) by decide +kernel) rfl jr_ref).trans <|
  (l_aload_n (show gPG 62 73 = some (.aload_n 1) by decide +kernel) rfl h1).trans <|
  (l_gR (show gPG 62 74 = some (.getfield 75) by decide +kernel) (kd := 5) (sl := 1) (tc := 1) (fin := 1) (z := 1) (by decide +kernel) (by decide +kernel) (by decide +kernel)).trans <| bd_cg fun w6 hw6 =>
  (l_iload_n (show gPG 62 77 = some (.iload_n 2) by decide +kernel) rfl).trans <|
  (l_iald (show gPG 62 78 = some (.iaload) by decide +kernel) ).trans <| bd_cg fun x7 hx7 =>
  l_callV (u := 1) (v := .ref a) (as := [.int x7]) (show gPG 62 79 = some (jinvI 1 78) by decide +kernel) (by decide) (cc := 63) (na := 2) (kd := 2) (q4 := 0) (z := 10) (rest := []) (by decide +kernel) (by decide +kernel)  rfl (show (2 : Nat) ≤ 2 by decide) rfl cs0 (by decide +kernel) (cai (cav jr_ref ca0))) (
  ite_bd (
  (l_aload_n (show gPG 62 99 = some (.aload_n 0) by decide +kernel) rfl jr_ref).trans <|
  (l_aload_n (show gPG 62 100 = some (.aload_n 0) by decide +kernel) rfl jr_ref).trans <|
  l_callV (u := 1) (v := .ref a) (as := []) (show gPG 62 101 = some (jinvI 1 71) by decide +kernel) (by decide) (cc := 65) (na := 1) (kd := 2) (q4 := 0) (z := 10) (rest := [.ref a]) (by decide +kernel) (by decide +kernel)  rfl (show (1 : Nat) ≤ 2 by decide) rfl (csv jr_ref cs0) (by decide +kernel) (cav jr_ref ca0)) (
  ite_bd (
  (l_aload_n (show gPG 62 85 = some (.aload_n 0) by decide +kernel) rfl jr_ref).trans <|
  (l_aload_n (show gPG 62 86 = some (.aload_n 0) by decide +kernel) rfl jr_ref).trans <|
  (l_aload_n (show gPG 62 87 = some (.aload_n 1) by decide +kernel) rfl h1).trans <|
  (l_iload_n (show gPG 62 88 = some (.iload_n 2) by decide +kernel) rfl).trans <|
  (l_iload_n (show gPG 62 89 = some (.iload_n 3) by decide +kernel) rfl).trans <|
  l_callV (u := 1) (v := .ref a) (as := [r1, .int i2, .int i3]) (show gPG 62 90 = some (jinvI 1 82) by decide +kernel) (by decide) (cc := 64) (na := 4) (kd := 2) (q4 := 0) (z := 10) (rest := [.ref a]) (by decide +kernel) (by decide +kernel)  rfl (show (4 : Nat) ≤ 5 by decide) rfl (csv jr_ref cs0) (by decide +kernel) (cai (cai (cav h1 (cav jr_ref ca0))))) (
  ite_bd (
  (l_aload_n (show gPG 62 85 = some (.aload_n 0) by decide +kernel) rfl jr_ref).trans <|
  (l_aload_n (show gPG 62 86 = some (.aload_n 0) by decide +kernel) rfl jr_ref).trans <|
  (l_aload_n (show gPG 62 87 = some (.aload_n 1) by decide +kernel) rfl h1).trans <|
  (l_iload_n (show gPG 62 88 = some (.iload_n 2) by decide +kernel) rfl).trans <|
  (l_iload_n (show gPG 62 89 = some (.iload_n 3) by decide +kernel) rfl).trans <|
  l_callV (u := 1) (v := .ref a) (as := [r1, .int i2, .int i3]) (show gPG 62 90 = some (jinvI 1 82) by decide +kernel) (by decide) (cc := 64) (na := 4) (kd := 2) (q4 := 0) (z := 10) (rest := [.ref a]) (by decide +kernel) (by decide +kernel)  rfl (show (4 : Nat) ≤ 5 by decide) rfl (csv jr_ref cs0) (by decide +kernel) (cai (cai (cav h1 (cav jr_ref ca0))))) (
  sm_bd (
  (l_aload_n (show gPG 62 160 = some (.aload_n 0) by decide +kernel) rfl jr_ref).trans <|
  (l_aload_n (show gPG 62 161 = some (.aload_n 0) by decide +kernel) rfl jr_ref).trans <|
  (l_aload_n (show gPG 62 162 = some (.aload_n 1) by decide +kernel) rfl h1).trans <|
  (l_iload_n (show gPG 62 163 = some (.iload_n 2) by decide +kernel) rfl).trans <|
  (l_iload_n (show gPG 62 164 = some (.iload_n 3) by decide +kernel) rfl).trans <|
  l_callV (u := 1) (v := .ref a) (as := [r1, .int i2, .int i3]) (show gPG 62 165 = some (jinvI 1 86) by decide +kernel) (by decide) (cc := 66) (na := 4) (kd := 2) (q4 := 0) (z := 10) (rest := [.ref a]) (by decide +kernel) (by decide +kernel)  rfl (show (4 : Nat) ≤ 5 by decide) rfl (csv jr_ref cs0) (by decide +kernel) (cai (cai (cav h1 (cav jr_ref ca0))))))))))))
theorem b62_82 (d : Nat) (μ : jM) (u0 : Value) (u1 : Value) (u2 : Value) (u3 : Value) : jR d 62 82 [u0, u1, u2, u3] [] μ = jR d 62 171 [u0, u1, u2, u3] [] μ :=
  l_goto (show gPG 62 82 = some (.goto 89) by decide +kernel) (t := 171) (by decide +kernel)
theorem b62_93 (d : Nat) (μ : jM) (u0 : Value) (u1 : Value) (u2 : Value) (u3 : Value) (s0 : Value) (s1 : Int32) (hs0 : jisref s0 = true) : jR (d + 1) 62 93 [u0, u1, u2, u3] [.int s1, s0] μ = (if jrecv μ 2 s0 = true then (jC d 63 [s0, .int s1] μ).bind fun p1 => jR (d + 1) 62 96 [u0, u1, u2, u3] (p1.1.toList ++ []) p1.2 else none) :=
  l_callV (u := 1) (v := s0) (as := [.int s1]) (show gPG 62 93 = some (jinvI 1 78) by decide +kernel) (by decide) (cc := 63) (na := 2) (kd := 2) (q4 := 0) (z := 10) (rest := []) (by decide +kernel) (by decide +kernel)  rfl (show (2 : Nat) ≤ 2 by decide) rfl cs0 (by decide +kernel) (cai (cav hs0 ca0))
theorem b62_96 (d : Nat) (μ : jM) (u0 : Value) (u1 : Value) (u2 : Value) (u3 : Value) : jR d 62 96 [u0, u1, u2, u3] [] μ = jR d 62 171 [u0, u1, u2, u3] [] μ :=
  l_goto (show gPG 62 96 = some (.goto 75) by decide +kernel) (t := 171) (by decide +kernel)
theorem b62_104 (d : Nat) (μ : jM) (u0 : Value) (u1 : Value) (u2 : Value) (u3 : Value) (s0 : Value) (s1 : Int32) (hs0 : jisref s0 = true) : jR (d + 1) 62 104 [u0, u1, u2, u3] [.int s1, s0] μ = (if jrecv μ 2 s0 = true then (jC d 63 [s0, .int (-s1)] μ).bind fun p1 => jR (d + 1) 62 108 [u0, u1, u2, u3] (p1.1.toList ++ []) p1.2 else none) :=
  (l_ineg (show gPG 62 104 = some (.ineg) by decide +kernel) ).trans <|
  l_callV (u := 1) (v := s0) (as := [.int (-s1)]) (show gPG 62 105 = some (jinvI 1 78) by decide +kernel) (by decide) (cc := 63) (na := 2) (kd := 2) (q4 := 0) (z := 10) (rest := []) (by decide +kernel) (by decide +kernel)  rfl (show (2 : Nat) ≤ 2 by decide) rfl cs0 (by decide +kernel) (cai (cav hs0 ca0))
theorem b62_108 (d : Nat) (μ : jM) (u0 : Value) (u1 : Value) (u2 : Value) (u3 : Value) : jR d 62 108 [u0, u1, u2, u3] [] μ = jR d 62 171 [u0, u1, u2, u3] [] μ :=
  l_goto (show gPG 62 108 = some (.goto 63) by decide +kernel) (t := 171) (by decide +kernel)
theorem b62_116 (d : Nat) (μ : jM) (a : Nat) (u1 : Value) (u2 : Value) (u3 : Value) (s0 : Value) (s1 : Int32) (hs0 : jisref s0 = true) : jR (d + 1) 62 116 [.ref a, u1, u2, u3] [.int s1, s0] μ = (if jrecv μ 2 (.ref a) = true then (jC d 65 [.ref a] μ).bind fun p1 => jR (d + 1) 62 120 [.ref a, u1, u2, u3] (p1.1.toList ++ [.int s1, s0]) p1.2 else none) :=
  (l_aload_n (show gPG 62 116 = some (.aload_n 0) by decide +kernel) rfl jr_ref).trans <|
  l_callV (u := 1) (v := .ref a) (as := []) (show gPG 62 117 = some (jinvI 1 71) by decide +kernel) (by decide) (cc := 65) (na := 1) (kd := 2) (q4 := 0) (z := 10) (rest := [.int s1, s0]) (by decide +kernel) (by decide +kernel)  rfl (show (1 : Nat) ≤ 3 by decide) rfl (csi (csv hs0 cs0)) (by decide +kernel) (cav jr_ref ca0)
theorem b62_120 (d : Nat) (μ : jM) (u0 : Value) (u1 : Value) (u2 : Value) (u3 : Value) (s0 : Value) (s1 : Int32) (s2 : Int32) (hs0 : jisref s0 = true) : jR (d + 1) 62 120 [u0, u1, u2, u3] [.int s2, .int s1, s0] μ = (if jrecv μ 2 s0 = true then (jC d 63 [s0, .int (s1 + s2)] μ).bind fun p1 => jR (d + 1) 62 124 [u0, u1, u2, u3] (p1.1.toList ++ []) p1.2 else none) :=
  (l_iadd (show gPG 62 120 = some (.iadd) by decide +kernel) ).trans <|
  l_callV (u := 1) (v := s0) (as := [.int (s1 + s2)]) (show gPG 62 121 = some (jinvI 1 78) by decide +kernel) (by decide) (cc := 63) (na := 2) (kd := 2) (q4 := 0) (z := 10) (rest := []) (by decide +kernel) (by decide +kernel)  rfl (show (2 : Nat) ≤ 2 by decide) rfl cs0 (by decide +kernel) (cai (cav hs0 ca0))
theorem b62_124 (d : Nat) (μ : jM) (u0 : Value) (u1 : Value) (u2 : Value) (u3 : Value) : jR d 62 124 [u0, u1, u2, u3] [] μ = jR d 62 171 [u0, u1, u2, u3] [] μ :=
  l_goto (show gPG 62 124 = some (.goto 47) by decide +kernel) (t := 171) (by decide +kernel)
theorem b62_132 (d : Nat) (μ : jM) (a : Nat) (u1 : Value) (u2 : Value) (u3 : Value) (s0 : Value) (s1 : Int32) (hs0 : jisref s0 = true) : jR (d + 1) 62 132 [.ref a, u1, u2, u3] [.int s1, s0] μ = (if jrecv μ 2 (.ref a) = true then (jC d 65 [.ref a] μ).bind fun p1 => jR (d + 1) 62 137 [.ref a, u1, u2, u3] (p1.1.toList ++ [.int (-s1), s0]) p1.2 else none) :=
  (l_ineg (show gPG 62 132 = some (.ineg) by decide +kernel) ).trans <|
  (l_aload_n (show gPG 62 133 = some (.aload_n 0) by decide +kernel) rfl jr_ref).trans <|
  l_callV (u := 1) (v := .ref a) (as := []) (show gPG 62 134 = some (jinvI 1 71) by decide +kernel) (by decide) (cc := 65) (na := 1) (kd := 2) (q4 := 0) (z := 10) (rest := [.int (-s1), s0]) (by decide +kernel) (by decide +kernel)  rfl (show (1 : Nat) ≤ 3 by decide) rfl (csi (csv hs0 cs0)) (by decide +kernel) (cav jr_ref ca0)
theorem b62_137 (d : Nat) (μ : jM) (u0 : Value) (u1 : Value) (u2 : Value) (u3 : Value) (s0 : Value) (s1 : Int32) (s2 : Int32) (hs0 : jisref s0 = true) : jR (d + 1) 62 137 [u0, u1, u2, u3] [.int s2, .int s1, s0] μ = (if jrecv μ 2 s0 = true then (jC d 63 [s0, .int (s1 + s2)] μ).bind fun p1 => jR (d + 1) 62 141 [u0, u1, u2, u3] (p1.1.toList ++ []) p1.2 else none) :=
  (l_iadd (show gPG 62 137 = some (.iadd) by decide +kernel) ).trans <|
  l_callV (u := 1) (v := s0) (as := [.int (s1 + s2)]) (show gPG 62 138 = some (jinvI 1 78) by decide +kernel) (by decide) (cc := 63) (na := 2) (kd := 2) (q4 := 0) (z := 10) (rest := []) (by decide +kernel) (by decide +kernel)  rfl (show (2 : Nat) ≤ 2 by decide) rfl cs0 (by decide +kernel) (cai (cav hs0 ca0))
theorem b62_141 (d : Nat) (μ : jM) (u0 : Value) (u1 : Value) (u2 : Value) (u3 : Value) : jR d 62 141 [u0, u1, u2, u3] [] μ = jR d 62 171 [u0, u1, u2, u3] [] μ :=
  l_goto (show gPG 62 141 = some (.goto 30) by decide +kernel) (t := 171) (by decide +kernel)
theorem b62_149 (d : Nat) (μ : jM) (a : Nat) (u1 : Value) (u2 : Value) (u3 : Value) (s0 : Value) (s1 : Int32) (hs0 : jisref s0 = true) : jR (d + 1) 62 149 [.ref a, u1, u2, u3] [.int s1, s0] μ = (if jrecv μ 2 (.ref a) = true then (jC d 65 [.ref a] μ).bind fun p1 => jR (d + 1) 62 153 [.ref a, u1, u2, u3] (p1.1.toList ++ [.int s1, s0]) p1.2 else none) :=
  (l_aload_n (show gPG 62 149 = some (.aload_n 0) by decide +kernel) rfl jr_ref).trans <|
  l_callV (u := 1) (v := .ref a) (as := []) (show gPG 62 150 = some (jinvI 1 71) by decide +kernel) (by decide) (cc := 65) (na := 1) (kd := 2) (q4 := 0) (z := 10) (rest := [.int s1, s0]) (by decide +kernel) (by decide +kernel)  rfl (show (1 : Nat) ≤ 3 by decide) rfl (csi (csv hs0 cs0)) (by decide +kernel) (cav jr_ref ca0)
theorem b62_153 (d : Nat) (μ : jM) (u0 : Value) (u1 : Value) (u2 : Value) (u3 : Value) (s0 : Value) (s1 : Int32) (s2 : Int32) (hs0 : jisref s0 = true) : jR (d + 1) 62 153 [u0, u1, u2, u3] [.int s2, .int s1, s0] μ = (if jrecv μ 2 s0 = true then (jC d 63 [s0, .int (s1 * s2)] μ).bind fun p1 => jR (d + 1) 62 157 [u0, u1, u2, u3] (p1.1.toList ++ []) p1.2 else none) :=
  (l_imul (show gPG 62 153 = some (.imul) by decide +kernel) ).trans <|
  l_callV (u := 1) (v := s0) (as := [.int (s1 * s2)]) (show gPG 62 154 = some (jinvI 1 78) by decide +kernel) (by decide) (cc := 63) (na := 2) (kd := 2) (q4 := 0) (z := 10) (rest := []) (by decide +kernel) (by decide +kernel)  rfl (show (2 : Nat) ≤ 2 by decide) rfl cs0 (by decide +kernel) (cai (cav hs0 ca0))
theorem b62_157 (d : Nat) (μ : jM) (u0 : Value) (u1 : Value) (u2 : Value) (u3 : Value) : jR d 62 157 [u0, u1, u2, u3] [] μ = jR d 62 171 [u0, u1, u2, u3] [] μ :=
  l_goto (show gPG 62 157 = some (.goto 14) by decide +kernel) (t := 171) (by decide +kernel)
theorem b62_168 (d : Nat) (μ : jM) (u0 : Value) (u1 : Value) (u2 : Value) (u3 : Value) (s0 : Value) (s1 : Int32) (hs0 : jisref s0 = true) : jR (d + 1) 62 168 [u0, u1, u2, u3] [.int s1, s0] μ = (if jrecv μ 2 s0 = true then (jC d 63 [s0, .int s1] μ).bind fun p1 => jR (d + 1) 62 171 [u0, u1, u2, u3] (p1.1.toList ++ []) p1.2 else none) :=
  l_callV (u := 1) (v := s0) (as := [.int s1]) (show gPG 62 168 = some (jinvI 1 78) by decide +kernel) (by decide) (cc := 63) (na := 2) (kd := 2) (q4 := 0) (z := 10) (rest := []) (by decide +kernel) (by decide +kernel)  rfl (show (2 : Nat) ≤ 2 by decide) rfl cs0 (by decide +kernel) (cai (cav hs0 ca0))
theorem b62_171 (d : Nat) (μ : jM) (u0 : Value) (u1 : Value) (u2 : Value) (u3 : Value) : jR d 62 171 [u0, u1, u2, u3] [] μ = some (none, μ) :=
  l_ret (show gPG 62 171 = some (.return_) by decide +kernel) (by decide +kernel)
-- Asking.push
theorem b63_0 (d : Nat) (μ : jM) (a : Nat) (i1 : Int32) : jR d 63 0 [.ref a, .int i1] [] μ = (jgI μ 2 5 (.ref a)).bind fun x1 => (jgR μ 2 4 (.ref a)).bind fun w2 => (jal μ w2).bind fun x3 => (if x1 < x3 then (jgR μ 2 4 (.ref a)).bind fun w4 => (jgI μ 2 5 (.ref a)).bind fun x5 => (jsI μ w4 x5 i1).bind fun m6 => (jgI m6 2 5 (.ref a)).bind fun x7 => (jpI m6 2 5 0 (.ref a) (x7 + 1)).bind fun m8 => jR d 63 32 [.ref a, .int i1] [] m8 else jR d 63 32 [.ref a, .int i1] [] μ) :=
  (l_aload_n (show gPG 63 0 = some (.aload_n 0) by decide +kernel) rfl jr_ref).trans <|
  (l_gI (show gPG 63 1 = some (.getfield 29) by decide +kernel) (kd := 2) (sl := 5) (tc := 0) (fin := 0) (z := 0) (by decide +kernel) (by decide +kernel) (by decide +kernel)).trans <| bd_cg fun x1 hx1 =>
  (l_aload_n (show gPG 63 4 = some (.aload_n 0) by decide +kernel) rfl jr_ref).trans <|
  (l_gR (show gPG 63 5 = some (.getfield 18) by decide +kernel) (kd := 2) (sl := 4) (tc := 1) (fin := 1) (z := 0) (by decide +kernel) (by decide +kernel) (by decide +kernel)).trans <| bd_cg fun w2 hw2 =>
  (l_alen (show gPG 63 8 = some (.arraylength) by decide +kernel) ).trans <| bd_cg fun x3 hx3 =>
  (l_cmp (show gPG 63 9 = some (.if_icmp .ge 23) by decide +kernel) (t := 32) (by decide +kernel)).trans <| jm_ge.trans <| ite_cg (
  (l_aload_n (show gPG 63 12 = some (.aload_n 0) by decide +kernel) rfl jr_ref).trans <|
  (l_gR (show gPG 63 13 = some (.getfield 18) by decide +kernel) (kd := 2) (sl := 4) (tc := 1) (fin := 1) (z := 0) (by decide +kernel) (by decide +kernel) (by decide +kernel)).trans <| bd_cg fun w4 hw4 =>
  (l_aload_n (show gPG 63 16 = some (.aload_n 0) by decide +kernel) rfl jr_ref).trans <|
  (l_gI (show gPG 63 17 = some (.getfield 29) by decide +kernel) (kd := 2) (sl := 5) (tc := 0) (fin := 0) (z := 0) (by decide +kernel) (by decide +kernel) (by decide +kernel)).trans <| bd_cg fun x5 hx5 =>
  (l_iload_n (show gPG 63 20 = some (.iload_n 1) by decide +kernel) rfl).trans <|
  (l_iast (show gPG 63 21 = some (.iastore) by decide +kernel) ).trans <| bd_cg fun m6 hm6 =>
  (l_aload_n (show gPG 63 22 = some (.aload_n 0) by decide +kernel) rfl jr_ref).trans <|
  (l_dup (show gPG 63 23 = some (.dup) by decide +kernel) (jr_cat1 jr_ref)).trans <|
  (l_gI (show gPG 63 24 = some (.getfield 29) by decide +kernel) (kd := 2) (sl := 5) (tc := 0) (fin := 0) (z := 0) (by decide +kernel) (by decide +kernel) (by decide +kernel)).trans <| bd_cg fun x7 hx7 =>
  (l_iconst (show gPG 63 27 = some (.iconst 1) by decide +kernel) (c := 1) (by decide +kernel)).trans <|
  (l_iadd (show gPG 63 28 = some (.iadd) by decide +kernel) ).trans <|
  (l_pI (show gPG 63 29 = some (.putfield 29) by decide +kernel) (kd := 2) (sl := 5) (tc := 0) (fin := 0) (z := 0) (by decide +kernel) (by decide +kernel) (by decide +kernel)).trans <| bd_cg fun m8 hm8 =>
  rfl) (
  rfl)
theorem b63_32 (d : Nat) (μ : jM) (u0 : Value) (u1 : Value) : jR d 63 32 [u0, u1] [] μ = some (none, μ) :=
  l_ret (show gPG 63 32 = some (.return_) by decide +kernel) (by decide +kernel)
-- Asking.askRef
theorem b64_0 (d : Nat) (μ : jM) (a : Nat) (r1 : Value) (i2 : Int32) (i3 : Int32) (h1 : jisref r1 = true) : jR (d + 1) 64 0 [.ref a, r1, .int i2, .int i3, .retAddr 0] [] μ = (jgR μ 2 0 (.ref a)).bind fun w1 => (jgR μ 5 2 r1).bind fun w2 => (jaI μ w2 i2).bind fun x3 => (if jrecv μ 6 w1 = true then (jC d 92 [w1, .int x3] μ).bind fun p4 => jR (d + 1) 64 13 [.ref a, r1, .int i2, .int i3, .retAddr 0] (p4.1.toList ++ []) p4.2 else none) :=
  (l_aload_n (show gPG 64 0 = some (.aload_n 0) by decide +kernel) rfl jr_ref).trans <|
  (l_gR (show gPG 64 1 = some (.getfield 21) by decide +kernel) (kd := 2) (sl := 0) (tc := 1) (fin := 0) (z := 0) (by decide +kernel) (by decide +kernel) (by decide +kernel)).trans <| bd_cg fun w1 hw1 =>
  (l_aload_n (show gPG 64 4 = some (.aload_n 1) by decide +kernel) rfl h1).trans <|
  (l_gR (show gPG 64 5 = some (.getfield 89) by decide +kernel) (kd := 5) (sl := 2) (tc := 1) (fin := 1) (z := 1) (by decide +kernel) (by decide +kernel) (by decide +kernel)).trans <| bd_cg fun w2 hw2 =>
  (l_iload_n (show gPG 64 8 = some (.iload_n 2) by decide +kernel) rfl).trans <|
  (l_iald (show gPG 64 9 = some (.iaload) by decide +kernel) ).trans <| bd_cg fun x3 hx3 =>
  l_callV (u := 1) (v := w1) (as := [.int x3]) (show gPG 64 10 = some (jinvI 1 92) by decide +kernel) (by decide) (cc := 92) (na := 2) (kd := 6) (q4 := 0) (z := 11) (rest := []) (by decide +kernel) (by decide +kernel)  rfl (show (2 : Nat) ≤ 2 by decide) rfl cs0 (by decide +kernel) (cai (cav (jr_gR hw1) ca0))
theorem b64_13 (d : Nat) (μ : jM) (a : Nat) (r1 : Value) (i2 : Int32) (i3 : Int32) (u4 : Value) (s0 : Int32) (h1 : jisref r1 = true) : jR (d + 1) 64 13 [.ref a, r1, .int i2, .int i3, u4] [.int s0] μ = (if s0 = (-1) then (jpI μ 2 1 0 (.ref a) (-5)).bind fun m4 => some (some (.int 0), m4) else (jgR μ 5 1 r1).bind fun w1 => (jaI μ w1 i2).bind fun x2 => (if jrecv μ 2 (.ref a) = true then (jC d 60 [.ref a, .int s0, .int x2, .int (i3 + 1)] μ).bind fun p3 => jR (d + 1) 64 44 [.ref a, r1, .int i2, .int i3, .int s0] (p3.1.toList ++ []) p3.2 else none)) :=
  (l_istore (show gPG 64 13 = some (.istore 4) by decide +kernel) (ls := [.ref a, r1, .int i2, .int i3, u4]) (show (4 : Nat) < 5 by decide) (show _ = ([.ref a, r1, .int i2, .int i3, .int s0] : List Value) from rfl)).trans <|
  (l_iload (show gPG 64 15 = some (.iload 4) by decide +kernel) rfl).trans <|
  (l_iconst (show gPG 64 17 = some (.iconst (-1)) by decide +kernel) (c := (-1)) (by decide +kernel)).trans <|
  (l_cmp (show gPG 64 18 = some (.if_icmp .ne 11) by decide +kernel) (t := 29) (by decide +kernel)).trans <| jm_ne.trans <| ite_cg (
  (l_aload_n (show gPG 64 21 = some (.aload_n 0) by decide +kernel) rfl jr_ref).trans <|
  (l_bipush (show gPG 64 22 = some (.bipush (-5)) by decide +kernel) (c := (-5)) (by decide +kernel)).trans <|
  (l_pI (show gPG 64 24 = some (.putfield 25) by decide +kernel) (kd := 2) (sl := 1) (tc := 0) (fin := 0) (z := 0) (by decide +kernel) (by decide +kernel) (by decide +kernel)).trans <| bd_cg fun m4 hm4 =>
  (l_iconst (show gPG 64 27 = some (.iconst 0) by decide +kernel) (c := 0) (by decide +kernel)).trans <|
  l_iret1 (show gPG 64 28 = some (.ireturn) by decide +kernel) (by decide +kernel)) (
  (l_aload_n (show gPG 64 29 = some (.aload_n 0) by decide +kernel) rfl jr_ref).trans <|
  (l_iload (show gPG 64 30 = some (.iload 4) by decide +kernel) rfl).trans <|
  (l_aload_n (show gPG 64 32 = some (.aload_n 1) by decide +kernel) rfl h1).trans <|
  (l_gR (show gPG 64 33 = some (.getfield 75) by decide +kernel) (kd := 5) (sl := 1) (tc := 1) (fin := 1) (z := 1) (by decide +kernel) (by decide +kernel) (by decide +kernel)).trans <| bd_cg fun w1 hw1 =>
  (l_iload_n (show gPG 64 36 = some (.iload_n 2) by decide +kernel) rfl).trans <|
  (l_iald (show gPG 64 37 = some (.iaload) by decide +kernel) ).trans <| bd_cg fun x2 hx2 =>
  (l_iload_n (show gPG 64 38 = some (.iload_n 3) by decide +kernel) rfl).trans <|
  (l_iconst (show gPG 64 39 = some (.iconst 1) by decide +kernel) (c := 1) (by decide +kernel)).trans <|
  (l_iadd (show gPG 64 40 = some (.iadd) by decide +kernel) ).trans <|
  l_callV (u := 1) (v := .ref a) (as := [.int s0, .int x2, .int (i3 + 1)]) (show gPG 64 41 = some (jinvI 1 38) by decide +kernel) (by decide) (cc := 60) (na := 4) (kd := 2) (q4 := 0) (z := 10) (rest := []) (by decide +kernel) (by decide +kernel)  rfl (show (4 : Nat) ≤ 4 by decide) rfl cs0 (by decide +kernel) (cai (cai (cai (cav jr_ref ca0)))))
theorem b64_44 (d : Nat) (μ : jM) (u0 : Value) (u1 : Value) (u2 : Value) (u3 : Value) (u4 : Value) (s0 : Int32) : jR d 64 44 [u0, u1, u2, u3, u4] [.int s0] μ = some (some (.int s0), μ) :=
  l_iret1 (show gPG 64 44 = some (.ireturn) by decide +kernel) (by decide +kernel)
-- Asking.pop
theorem b65_0 (d : Nat) (μ : jM) (a : Nat) : jR d 65 0 [.ref a] [] μ = (jgI μ 2 5 (.ref a)).bind fun x1 => (if x1 < 1 then some (some (.int 0), μ) else (jgI μ 2 5 (.ref a)).bind fun x2 => (jpI μ 2 5 0 (.ref a) (x2 - 1)).bind fun m3 => (jgR m3 2 4 (.ref a)).bind fun w4 => (jgI m3 2 5 (.ref a)).bind fun x5 => (jaI m3 w4 x5).bind fun x6 => some (some (.int x6), m3)) :=
  (l_aload_n (show gPG 65 0 = some (.aload_n 0) by decide +kernel) rfl jr_ref).trans <|
  (l_gI (show gPG 65 1 = some (.getfield 29) by decide +kernel) (kd := 2) (sl := 5) (tc := 0) (fin := 0) (z := 0) (by decide +kernel) (by decide +kernel) (by decide +kernel)).trans <| bd_cg fun x1 hx1 =>
  (l_iconst (show gPG 65 4 = some (.iconst 1) by decide +kernel) (c := 1) (by decide +kernel)).trans <|
  (l_cmp (show gPG 65 5 = some (.if_icmp .ge 5) by decide +kernel) (t := 10) (by decide +kernel)).trans <| jm_ge.trans <| ite_cg (
  (l_iconst (show gPG 65 8 = some (.iconst 0) by decide +kernel) (c := 0) (by decide +kernel)).trans <|
  l_iret1 (show gPG 65 9 = some (.ireturn) by decide +kernel) (by decide +kernel)) (
  (l_aload_n (show gPG 65 10 = some (.aload_n 0) by decide +kernel) rfl jr_ref).trans <|
  (l_dup (show gPG 65 11 = some (.dup) by decide +kernel) (jr_cat1 jr_ref)).trans <|
  (l_gI (show gPG 65 12 = some (.getfield 29) by decide +kernel) (kd := 2) (sl := 5) (tc := 0) (fin := 0) (z := 0) (by decide +kernel) (by decide +kernel) (by decide +kernel)).trans <| bd_cg fun x2 hx2 =>
  (l_iconst (show gPG 65 15 = some (.iconst 1) by decide +kernel) (c := 1) (by decide +kernel)).trans <|
  (l_isub (show gPG 65 16 = some (.isub) by decide +kernel) ).trans <|
  (l_pI (show gPG 65 17 = some (.putfield 29) by decide +kernel) (kd := 2) (sl := 5) (tc := 0) (fin := 0) (z := 0) (by decide +kernel) (by decide +kernel) (by decide +kernel)).trans <| bd_cg fun m3 hm3 =>
  (l_aload_n (show gPG 65 20 = some (.aload_n 0) by decide +kernel) rfl jr_ref).trans <|
  (l_gR (show gPG 65 21 = some (.getfield 18) by decide +kernel) (kd := 2) (sl := 4) (tc := 1) (fin := 1) (z := 0) (by decide +kernel) (by decide +kernel) (by decide +kernel)).trans <| bd_cg fun w4 hw4 =>
  (l_aload_n (show gPG 65 24 = some (.aload_n 0) by decide +kernel) rfl jr_ref).trans <|
  (l_gI (show gPG 65 25 = some (.getfield 29) by decide +kernel) (kd := 2) (sl := 5) (tc := 0) (fin := 0) (z := 0) (by decide +kernel) (by decide +kernel) (by decide +kernel)).trans <| bd_cg fun x5 hx5 =>
  (l_iald (show gPG 65 28 = some (.iaload) by decide +kernel) ).trans <| bd_cg fun x6 hx6 =>
  l_iret1 (show gPG 65 29 = some (.ireturn) by decide +kernel) (by decide +kernel))
-- Asking.askRange
theorem b66_0 (d : Nat) (μ : jM) (a : Nat) (r1 : Value) (i2 : Int32) (i3 : Int32) (h1 : jisref r1 = true) : jR (d + 1) 66 0 [.ref a, r1, .int i2, .int i3, .retAddr 0, .retAddr 0, .retAddr 0, .retAddr 0, .retAddr 0, .retAddr 0, .retAddr 0, .retAddr 0, .retAddr 0, .retAddr 0] [] μ = (jgR μ 5 0 r1).bind fun w1 => (jal μ w1).bind fun x2 => (if (i2 + 4) < x2 then (jgR μ 2 0 (.ref a)).bind fun w3 => (jgR μ 5 2 r1).bind fun w4 => (jaI μ w4 (i2 + 2)).bind fun x5 => (if jrecv μ 6 w3 = true then (jC d 92 [w3, .int x5] μ).bind fun p6 => jR (d + 1) 66 36 [.ref a, r1, .int i2, .int i3, .int (i2 + 2), .int (i2 + 4), .retAddr 0, .retAddr 0, .retAddr 0, .retAddr 0, .retAddr 0, .retAddr 0, .retAddr 0, .retAddr 0] (p6.1.toList ++ []) p6.2 else none) else some (some (.int 0), μ)) :=
  (l_iload_n (show gPG 66 0 = some (.iload_n 2) by decide +kernel) rfl).trans <|
  (l_iconst (show gPG 66 1 = some (.iconst 2) by decide +kernel) (c := 2) (by decide +kernel)).trans <|
  (l_iadd (show gPG 66 2 = some (.iadd) by decide +kernel) ).trans <|
  (l_istore (show gPG 66 3 = some (.istore 4) by decide +kernel) (ls := [.ref a, r1, .int i2, .int i3, .retAddr 0, .retAddr 0, .retAddr 0, .retAddr 0, .retAddr 0, .retAddr 0, .retAddr 0, .retAddr 0, .retAddr 0, .retAddr 0]) (show (4 : Nat) < 14 by decide) (show _ = ([.ref a, r1, .int i2, .int i3, .int (i2 + 2), .retAddr 0, .retAddr 0, .retAddr 0, .retAddr 0, .retAddr 0, .retAddr 0, .retAddr 0, .retAddr 0, .retAddr 0] : List Value) from rfl)).trans <|
  (l_iload_n (show gPG 66 5 = some (.iload_n 2) by decide +kernel) rfl).trans <|
  (l_iconst (show gPG 66 6 = some (.iconst 4) by decide +kernel) (c := 4) (by decide +kernel)).trans <|
  (l_iadd (show gPG 66 7 = some (.iadd) by decide +kernel) ).trans <|
  (l_istore (show gPG 66 8 = some (.istore 5) by decide +kernel) (ls := [.ref a, r1, .int i2, .int i3, .int (i2 + 2), .retAddr 0, .retAddr 0, .retAddr 0, .retAddr 0, .retAddr 0, .retAddr 0, .retAddr 0, .retAddr 0, .retAddr 0]) (show (5 : Nat) < 14 by decide) (show _ = ([.ref a, r1, .int i2, .int i3, .int (i2 + 2), .int (i2 + 4), .retAddr 0, .retAddr 0, .retAddr 0, .retAddr 0, .retAddr 0, .retAddr 0, .retAddr 0, .retAddr 0] : List Value) from rfl)).trans <|
  (l_iload (show gPG 66 10 = some (.iload 5) by decide +kernel) rfl).trans <|
  (l_aload_n (show gPG 66 12 = some (.aload_n 1) by decide +kernel) rfl h1).trans <|
  (l_gR (show gPG 66 13 = some (.getfield 64) by decide +kernel) (kd := 5) (sl := 0) (tc := 1) (fin := 1) (z := 1) (by decide +kernel) (by decide +kernel) (by decide +kernel)).trans <| bd_cg fun w1 hw1 =>
  (l_alen (show gPG 66 16 = some (.arraylength) by decide +kernel) ).trans <| bd_cg fun x2 hx2 =>
  (l_cmp (show gPG 66 17 = some (.if_icmp .lt 5) by decide +kernel) (t := 22) (by decide +kernel)).trans <| jm_lt.trans <| ite_cg (
  (l_aload_n (show gPG 66 22 = some (.aload_n 0) by decide +kernel) rfl jr_ref).trans <|
  (l_gR (show gPG 66 23 = some (.getfield 21) by decide +kernel) (kd := 2) (sl := 0) (tc := 1) (fin := 0) (z := 0) (by decide +kernel) (by decide +kernel) (by decide +kernel)).trans <| bd_cg fun w3 hw3 =>
  (l_aload_n (show gPG 66 26 = some (.aload_n 1) by decide +kernel) rfl h1).trans <|
  (l_gR (show gPG 66 27 = some (.getfield 89) by decide +kernel) (kd := 5) (sl := 2) (tc := 1) (fin := 1) (z := 1) (by decide +kernel) (by decide +kernel) (by decide +kernel)).trans <| bd_cg fun w4 hw4 =>
  (l_iload (show gPG 66 30 = some (.iload 4) by decide +kernel) rfl).trans <|
  (l_iald (show gPG 66 32 = some (.iaload) by decide +kernel) ).trans <| bd_cg fun x5 hx5 =>
  l_callV (u := 1) (v := w3) (as := [.int x5]) (show gPG 66 33 = some (jinvI 1 92) by decide +kernel) (by decide) (cc := 92) (na := 2) (kd := 6) (q4 := 0) (z := 11) (rest := []) (by decide +kernel) (by decide +kernel)  rfl (show (2 : Nat) ≤ 2 by decide) rfl cs0 (by decide +kernel) (cai (cav (jr_gR hw3) ca0))) (
  (l_iconst (show gPG 66 20 = some (.iconst 0) by decide +kernel) (c := 0) (by decide +kernel)).trans <|
  l_iret1 (show gPG 66 21 = some (.ireturn) by decide +kernel) (by decide +kernel))
theorem b66_36 (d : Nat) (μ : jM) (a : Nat) (r1 : Value) (i2 : Int32) (i3 : Int32) (i4 : Int32) (i5 : Int32) (u6 : Value) (u7 : Value) (u8 : Value) (u9 : Value) (u10 : Value) (u11 : Value) (u12 : Value) (u13 : Value) (s0 : Int32) (h1 : jisref r1 = true) : jR (d + 1) 66 36 [.ref a, r1, .int i2, .int i3, .int i4, .int i5, u6, u7, u8, u9, u10, u11, u12, u13] [.int s0] μ = (jgR μ 2 0 (.ref a)).bind fun w1 => (jgR μ 5 2 r1).bind fun w2 => (jaI μ w2 i5).bind fun x3 => (if jrecv μ 6 w1 = true then (jC d 92 [w1, .int x3] μ).bind fun p4 => jR (d + 1) 66 52 [.ref a, r1, .int i2, .int i3, .int i4, .int i5, .int s0, u7, u8, u9, u10, u11, u12, u13] (p4.1.toList ++ []) p4.2 else none) :=
  (l_istore (show gPG 66 36 = some (.istore 6) by decide +kernel) (ls := [.ref a, r1, .int i2, .int i3, .int i4, .int i5, u6, u7, u8, u9, u10, u11, u12, u13]) (show (6 : Nat) < 14 by decide) (show _ = ([.ref a, r1, .int i2, .int i3, .int i4, .int i5, .int s0, u7, u8, u9, u10, u11, u12, u13] : List Value) from rfl)).trans <|
  (l_aload_n (show gPG 66 38 = some (.aload_n 0) by decide +kernel) rfl jr_ref).trans <|
  (l_gR (show gPG 66 39 = some (.getfield 21) by decide +kernel) (kd := 2) (sl := 0) (tc := 1) (fin := 0) (z := 0) (by decide +kernel) (by decide +kernel) (by decide +kernel)).trans <| bd_cg fun w1 hw1 =>
  (l_aload_n (show gPG 66 42 = some (.aload_n 1) by decide +kernel) rfl h1).trans <|
  (l_gR (show gPG 66 43 = some (.getfield 89) by decide +kernel) (kd := 5) (sl := 2) (tc := 1) (fin := 1) (z := 1) (by decide +kernel) (by decide +kernel) (by decide +kernel)).trans <| bd_cg fun w2 hw2 =>
  (l_iload (show gPG 66 46 = some (.iload 5) by decide +kernel) rfl).trans <|
  (l_iald (show gPG 66 48 = some (.iaload) by decide +kernel) ).trans <| bd_cg fun x3 hx3 =>
  l_callV (u := 1) (v := w1) (as := [.int x3]) (show gPG 66 49 = some (jinvI 1 92) by decide +kernel) (by decide) (cc := 92) (na := 2) (kd := 6) (q4 := 0) (z := 11) (rest := []) (by decide +kernel) (by decide +kernel)  rfl (show (2 : Nat) ≤ 2 by decide) rfl cs0 (by decide +kernel) (cai (cav (jr_gR hw1) ca0))
theorem b66_52 (d : Nat) (μ : jM) (a : Nat) (r1 : Value) (i2 : Int32) (i3 : Int32) (i4 : Int32) (i5 : Int32) (i6 : Int32) (u7 : Value) (u8 : Value) (u9 : Value) (u10 : Value) (u11 : Value) (u12 : Value) (u13 : Value) (s0 : Int32) (h1 : jisref r1 = true) : jR (d + 1) 66 52 [.ref a, r1, .int i2, .int i3, .int i4, .int i5, .int i6, u7, u8, u9, u10, u11, u12, u13] [.int s0] μ = (if i6 = (-1) then jR (d + 1) 66 66 [.ref a, r1, .int i2, .int i3, .int i4, .int i5, .int i6, .int s0, u8, u9, u10, u11, u12, u13] [] μ else (if s0 = (-1) then jR (d + 1) 66 66 [.ref a, r1, .int i2, .int i3, .int i4, .int i5, .int i6, .int s0, u8, u9, u10, u11, u12, u13] [] μ else (jgR μ 5 1 r1).bind fun w1 => (jaI μ w1 i4).bind fun x2 => (jgR μ 5 1 r1).bind fun w3 => (jaI μ w3 i5).bind fun x4 => (jC d 279 [.int x2, .int x4] μ).bind fun p5 => jR (d + 1) 66 91 [.ref a, r1, .int i2, .int i3, .int i4, .int i5, .int i6, .int s0, u8, u9, u10, u11, u12, u13] (p5.1.toList ++ []) p5.2)) :=
  (l_istore (show gPG 66 52 = some (.istore 7) by decide +kernel) (ls := [.ref a, r1, .int i2, .int i3, .int i4, .int i5, .int i6, u7, u8, u9, u10, u11, u12, u13]) (show (7 : Nat) < 14 by decide) (show _ = ([.ref a, r1, .int i2, .int i3, .int i4, .int i5, .int i6, .int s0, u8, u9, u10, u11, u12, u13] : List Value) from rfl)).trans <|
  (l_iload (show gPG 66 54 = some (.iload 6) by decide +kernel) rfl).trans <|
  (l_iconst (show gPG 66 56 = some (.iconst (-1)) by decide +kernel) (c := (-1)) (by decide +kernel)).trans <|
  (l_cmp (show gPG 66 57 = some (.if_icmp .eq 9) by decide +kernel) (t := 66) (by decide +kernel)).trans <| jm_eq.trans <| ite_cg (
  rfl) (
  (l_iload (show gPG 66 60 = some (.iload 7) by decide +kernel) rfl).trans <|
  (l_iconst (show gPG 66 62 = some (.iconst (-1)) by decide +kernel) (c := (-1)) (by decide +kernel)).trans <|
  (l_cmp (show gPG 66 63 = some (.if_icmp .ne 11) by decide +kernel) (t := 74) (by decide +kernel)).trans <| jm_ne.trans <| ite_cg (
  rfl) (
  (l_aload_n (show gPG 66 74 = some (.aload_n 1) by decide +kernel) rfl h1).trans <|
  (l_gR (show gPG 66 75 = some (.getfield 75) by decide +kernel) (kd := 5) (sl := 1) (tc := 1) (fin := 1) (z := 1) (by decide +kernel) (by decide +kernel) (by decide +kernel)).trans <| bd_cg fun w1 hw1 =>
  (l_iload (show gPG 66 78 = some (.iload 4) by decide +kernel) rfl).trans <|
  (l_iald (show gPG 66 80 = some (.iaload) by decide +kernel) ).trans <| bd_cg fun x2 hx2 =>
  (l_aload_n (show gPG 66 81 = some (.aload_n 1) by decide +kernel) rfl h1).trans <|
  (l_gR (show gPG 66 82 = some (.getfield 75) by decide +kernel) (kd := 5) (sl := 1) (tc := 1) (fin := 1) (z := 1) (by decide +kernel) (by decide +kernel) (by decide +kernel)).trans <| bd_cg fun w3 hw3 =>
  (l_iload (show gPG 66 85 = some (.iload 5) by decide +kernel) rfl).trans <|
  (l_iald (show gPG 66 87 = some (.iaload) by decide +kernel) ).trans <| bd_cg fun x4 hx4 =>
  l_callS (u := 2) (as := [.int x2, .int x4]) (show gPG 66 88 = some (jinvI 2 96) by decide +kernel) (by decide) (cc := 279) (na := 2) (q4 := 0) (z := 12) (rest := []) (by decide +kernel) (by decide +kernel)  rfl (show (2 : Nat) ≤ 2 by decide) rfl cs0 (by decide +kernel) (cai (cai ca0)) (fun e => absurd e (by decide))))
theorem b66_66 (d : Nat) (μ : jM) (a : Nat) (u1 : Value) (u2 : Value) (u3 : Value) (u4 : Value) (u5 : Value) (u6 : Value) (u7 : Value) (u8 : Value) (u9 : Value) (u10 : Value) (u11 : Value) (u12 : Value) (u13 : Value) : jR d 66 66 [.ref a, u1, u2, u3, u4, u5, u6, u7, u8, u9, u10, u11, u12, u13] [] μ = (jpI μ 2 1 0 (.ref a) (-5)).bind fun m1 => some (some (.int 0), m1) :=
  (l_aload_n (show gPG 66 66 = some (.aload_n 0) by decide +kernel) rfl jr_ref).trans <|
  (l_bipush (show gPG 66 67 = some (.bipush (-5)) by decide +kernel) (c := (-5)) (by decide +kernel)).trans <|
  (l_pI (show gPG 66 69 = some (.putfield 25) by decide +kernel) (kd := 2) (sl := 1) (tc := 0) (fin := 0) (z := 0) (by decide +kernel) (by decide +kernel) (by decide +kernel)).trans <| bd_cg fun m1 hm1 =>
  (l_iconst (show gPG 66 72 = some (.iconst 0) by decide +kernel) (c := 0) (by decide +kernel)).trans <|
  l_iret1 (show gPG 66 73 = some (.ireturn) by decide +kernel) (by decide +kernel)
theorem b66_91 (d : Nat) (μ : jM) (a : Nat) (r1 : Value) (i2 : Int32) (i3 : Int32) (i4 : Int32) (i5 : Int32) (i6 : Int32) (i7 : Int32) (u8 : Value) (u9 : Value) (u10 : Value) (u11 : Value) (u12 : Value) (u13 : Value) (s0 : Int32) (h1 : jisref r1 = true) : jR (d + 1) 66 91 [.ref a, r1, .int i2, .int i3, .int i4, .int i5, .int i6, .int i7, u8, u9, u10, u11, u12, u13] [.int s0] μ = (jgR μ 5 1 r1).bind fun w1 => (jaI μ w1 i4).bind fun x2 => (jgR μ 5 1 r1).bind fun w3 => (jaI μ w3 i5).bind fun x4 => (jC d 280 [.int x2, .int x4] μ).bind fun p5 => jR (d + 1) 66 110 [.ref a, r1, .int i2, .int i3, .int i4, .int i5, .int i6, .int i7, .int s0, u9, u10, u11, u12, u13] (p5.1.toList ++ []) p5.2 :=
  (l_istore (show gPG 66 91 = some (.istore 8) by decide +kernel) (ls := [.ref a, r1, .int i2, .int i3, .int i4, .int i5, .int i6, .int i7, u8, u9, u10, u11, u12, u13]) (show (8 : Nat) < 14 by decide) (show _ = ([.ref a, r1, .int i2, .int i3, .int i4, .int i5, .int i6, .int i7, .int s0, u9, u10, u11, u12, u13] : List Value) from rfl)).trans <|
  (l_aload_n (show gPG 66 93 = some (.aload_n 1) by decide +kernel) rfl h1).trans <|
  (l_gR (show gPG 66 94 = some (.getfield 75) by decide +kernel) (kd := 5) (sl := 1) (tc := 1) (fin := 1) (z := 1) (by decide +kernel) (by decide +kernel) (by decide +kernel)).trans <| bd_cg fun w1 hw1 =>
  (l_iload (show gPG 66 97 = some (.iload 4) by decide +kernel) rfl).trans <|
  (l_iald (show gPG 66 99 = some (.iaload) by decide +kernel) ).trans <| bd_cg fun x2 hx2 =>
  (l_aload_n (show gPG 66 100 = some (.aload_n 1) by decide +kernel) rfl h1).trans <|
  (l_gR (show gPG 66 101 = some (.getfield 75) by decide +kernel) (kd := 5) (sl := 1) (tc := 1) (fin := 1) (z := 1) (by decide +kernel) (by decide +kernel) (by decide +kernel)).trans <| bd_cg fun w3 hw3 =>
  (l_iload (show gPG 66 104 = some (.iload 5) by decide +kernel) rfl).trans <|
  (l_iald (show gPG 66 106 = some (.iaload) by decide +kernel) ).trans <| bd_cg fun x4 hx4 =>
  l_callS (u := 2) (as := [.int x2, .int x4]) (show gPG 66 107 = some (jinvI 2 101) by decide +kernel) (by decide) (cc := 280) (na := 2) (q4 := 0) (z := 12) (rest := []) (by decide +kernel) (by decide +kernel)  rfl (show (2 : Nat) ≤ 2 by decide) rfl cs0 (by decide +kernel) (cai (cai ca0)) (fun e => absurd e (by decide))
theorem b66_110 (d : Nat) (μ : jM) (a : Nat) (r1 : Value) (i2 : Int32) (i3 : Int32) (u4 : Value) (u5 : Value) (i6 : Int32) (i7 : Int32) (i8 : Int32) (u9 : Value) (u10 : Value) (u11 : Value) (u12 : Value) (u13 : Value) (s0 : Int32) (h1 : jisref r1 = true) : jR d 66 110 [.ref a, r1, .int i2, .int i3, u4, u5, .int i6, .int i7, .int i8, u9, u10, u11, u12, u13] [.int s0] μ = (jgR μ 5 0 r1).bind fun w1 => (jaI μ w1 i2).bind fun x2 => (if x2 = 109 then jR d 66 145 [.ref a, r1, .int i2, .int i3, u4, u5, .int i6, .int i7, .int i8, .int s0, .int x2, u11, u12, u13] [.int (-2147483648)] μ else (if x2 = 108 then jR d 66 145 [.ref a, r1, .int i2, .int i3, u4, u5, .int i6, .int i7, .int i8, .int s0, .int x2, u11, u12, u13] [.int 2147483647] μ else jR d 66 145 [.ref a, r1, .int i2, .int i3, u4, u5, .int i6, .int i7, .int i8, .int s0, .int x2, u11, u12, u13] [.int 0] μ)) :=
  (l_istore (show gPG 66 110 = some (.istore 9) by decide +kernel) (ls := [.ref a, r1, .int i2, .int i3, u4, u5, .int i6, .int i7, .int i8, u9, u10, u11, u12, u13]) (show (9 : Nat) < 14 by decide) (show _ = ([.ref a, r1, .int i2, .int i3, u4, u5, .int i6, .int i7, .int i8, .int s0, u10, u11, u12, u13] : List Value) from rfl)).trans <|
  (l_aload_n (show gPG 66 112 = some (.aload_n 1) by decide +kernel) rfl h1).trans <|
  (l_gR (show gPG 66 113 = some (.getfield 64) by decide +kernel) (kd := 5) (sl := 0) (tc := 1) (fin := 1) (z := 1) (by decide +kernel) (by decide +kernel) (by decide +kernel)).trans <| bd_cg fun w1 hw1 =>
  (l_iload_n (show gPG 66 116 = some (.iload_n 2) by decide +kernel) rfl).trans <|
  (l_iald (show gPG 66 117 = some (.iaload) by decide +kernel) ).trans <| bd_cg fun x2 hx2 =>
  (l_istore (show gPG 66 118 = some (.istore 10) by decide +kernel) (ls := [.ref a, r1, .int i2, .int i3, u4, u5, .int i6, .int i7, .int i8, .int s0, u10, u11, u12, u13]) (show (10 : Nat) < 14 by decide) (show _ = ([.ref a, r1, .int i2, .int i3, u4, u5, .int i6, .int i7, .int i8, .int s0, .int x2, u11, u12, u13] : List Value) from rfl)).trans <|
  (l_iload (show gPG 66 120 = some (.iload 10) by decide +kernel) rfl).trans <|
  (l_bipush (show gPG 66 122 = some (.bipush 109) by decide +kernel) (c := 109) (by decide +kernel)).trans <|
  (l_cmp (show gPG 66 124 = some (.if_icmp .ne 8) by decide +kernel) (t := 132) (by decide +kernel)).trans <| jm_ne.trans <| ite_cg (
  (l_ldc (show gPG 66 127 = some (.ldc 104) by decide +kernel) (c := (-2147483648)) (by decide +kernel)).trans <|
  l_goto (show gPG 66 129 = some (.goto 16) by decide +kernel) (t := 145) (by decide +kernel)) (
  (l_iload (show gPG 66 132 = some (.iload 10) by decide +kernel) rfl).trans <|
  (l_bipush (show gPG 66 134 = some (.bipush 108) by decide +kernel) (c := 108) (by decide +kernel)).trans <|
  (l_cmp (show gPG 66 136 = some (.if_icmp .ne 8) by decide +kernel) (t := 144) (by decide +kernel)).trans <| jm_ne.trans <| ite_cg (
  (l_ldc (show gPG 66 139 = some (.ldc 105) by decide +kernel) (c := 2147483647) (by decide +kernel)).trans <|
  l_goto (show gPG 66 141 = some (.goto 4) by decide +kernel) (t := 145) (by decide +kernel)) (
  l_iconst (show gPG 66 144 = some (.iconst 0) by decide +kernel) (c := 0) (by decide +kernel)))
theorem b66_145 (d : Nat) (μ : jM) (a : Nat) (u1 : Value) (u2 : Value) (i3 : Int32) (u4 : Value) (u5 : Value) (i6 : Int32) (i7 : Int32) (i8 : Int32) (i9 : Int32) (i10 : Int32) (u11 : Value) (u12 : Value) (u13 : Value) (s0 : Int32) : jR (d + 1) 66 145 [.ref a, u1, u2, .int i3, u4, u5, .int i6, .int i7, .int i8, .int i9, .int i10, u11, u12, u13] [.int s0] μ = (jC d 279 [.int i6, .int i7] μ).bind fun p1 => jR (d + 1) 66 154 [.ref a, u1, u2, .int i3, u4, u5, .int i6, .int i7, .int i8, .int i9, .int i10, .int s0, u12, u13] (p1.1.toList ++ []) p1.2 :=
  (l_istore (show gPG 66 145 = some (.istore 11) by decide +kernel) (ls := [.ref a, u1, u2, .int i3, u4, u5, .int i6, .int i7, .int i8, .int i9, .int i10, u11, u12, u13]) (show (11 : Nat) < 14 by decide) (show _ = ([.ref a, u1, u2, .int i3, u4, u5, .int i6, .int i7, .int i8, .int i9, .int i10, .int s0, u12, u13] : List Value) from rfl)).trans <|
  (l_iload (show gPG 66 147 = some (.iload 6) by decide +kernel) rfl).trans <|
  (l_iload (show gPG 66 149 = some (.iload 7) by decide +kernel) rfl).trans <|
  l_callS (u := 2) (as := [.int i6, .int i7]) (show gPG 66 151 = some (jinvI 2 96) by decide +kernel) (by decide) (cc := 279) (na := 2) (q4 := 0) (z := 12) (rest := []) (by decide +kernel) (by decide +kernel)  rfl (show (2 : Nat) ≤ 2 by decide) rfl cs0 (by decide +kernel) (cai (cai ca0)) (fun e => absurd e (by decide))
theorem b66_154 (d : Nat) (μ : jM) (a : Nat) (u1 : Value) (u2 : Value) (i3 : Int32) (u4 : Value) (u5 : Value) (i6 : Int32) (i7 : Int32) (i8 : Int32) (i9 : Int32) (i10 : Int32) (i11 : Int32) (u12 : Value) (u13 : Value) (s0 : Int32) : jR d 66 154 [.ref a, u1, u2, .int i3, u4, u5, .int i6, .int i7, .int i8, .int i9, .int i10, .int i11, u12, u13] [.int s0] μ = jR d 66 156 [.ref a, u1, u2, .int i3, u4, u5, .int i6, .int i7, .int i8, .int i9, .int i10, .int i11, .int s0, u13] [] μ :=
  l_istore (show gPG 66 154 = some (.istore 12) by decide +kernel) (ls := [.ref a, u1, u2, .int i3, u4, u5, .int i6, .int i7, .int i8, .int i9, .int i10, .int i11, u12, u13]) (show (12 : Nat) < 14 by decide) (show _ = ([.ref a, u1, u2, .int i3, u4, u5, .int i6, .int i7, .int i8, .int i9, .int i10, .int i11, .int s0, u13] : List Value) from rfl)
theorem b66_156 (d : Nat) (μ : jM) (a : Nat) (u1 : Value) (u2 : Value) (i3 : Int32) (u4 : Value) (u5 : Value) (i6 : Int32) (i7 : Int32) (i8 : Int32) (i9 : Int32) (i10 : Int32) (i11 : Int32) (i12 : Int32) (u13 : Value) : jR (d + 1) 66 156 [.ref a, u1, u2, .int i3, u4, u5, .int i6, .int i7, .int i8, .int i9, .int i10, .int i11, .int i12, u13] [] μ = (jC d 280 [.int i6, .int i7] μ).bind fun p1 => jR (d + 1) 66 165 [.ref a, u1, u2, .int i3, u4, u5, .int i6, .int i7, .int i8, .int i9, .int i10, .int i11, .int i12, u13] (p1.1.toList ++ [.int i12]) p1.2 :=
  (l_iload (show gPG 66 156 = some (.iload 12) by decide +kernel) rfl).trans <|
  (l_iload (show gPG 66 158 = some (.iload 6) by decide +kernel) rfl).trans <|
  (l_iload (show gPG 66 160 = some (.iload 7) by decide +kernel) rfl).trans <|
  l_callS (u := 2) (as := [.int i6, .int i7]) (show gPG 66 162 = some (jinvI 2 101) by decide +kernel) (by decide) (cc := 280) (na := 2) (q4 := 0) (z := 12) (rest := [.int i12]) (by decide +kernel) (by decide +kernel)  rfl (show (2 : Nat) ≤ 3 by decide) rfl (csi cs0) (by decide +kernel) (cai (cai ca0)) (fun e => absurd e (by decide))
theorem b66_165 (d : Nat) (μ : jM) (a : Nat) (u1 : Value) (u2 : Value) (i3 : Int32) (u4 : Value) (u5 : Value) (i6 : Int32) (i7 : Int32) (i8 : Int32) (i9 : Int32) (i10 : Int32) (i11 : Int32) (i12 : Int32) (u13 : Value) (s0 : Int32) (s1 : Int32) : jR d 66 165 [.ref a, u1, u2, .int i3, u4, u5, .int i6, .int i7, .int i8, .int i9, .int i10, .int i11, .int i12, u13] [.int s1, .int s0] μ = (if s1 < s0 then some (some (.int i11), μ) else jR d 66 172 [.ref a, u1, u2, .int i3, u4, u5, .int i6, .int i7, .int i8, .int i9, .int i10, .int i11, .int i12, .int i8] [] μ) :=
  (l_cmp (show gPG 66 165 = some (.if_icmp .gt 85) by decide +kernel) (t := 250) (by decide +kernel)).trans <| jm_gt.trans <| ite_cg (
  (l_iload (show gPG 66 250 = some (.iload 11) by decide +kernel) rfl).trans <|
  l_iret1 (show gPG 66 252 = some (.ireturn) by decide +kernel) (by decide +kernel)) (
  (l_iload (show gPG 66 168 = some (.iload 8) by decide +kernel) rfl).trans <|
  l_istore (show gPG 66 170 = some (.istore 13) by decide +kernel) (ls := [.ref a, u1, u2, .int i3, u4, u5, .int i6, .int i7, .int i8, .int i9, .int i10, .int i11, .int i12, u13]) (show (13 : Nat) < 14 by decide) (show _ = ([.ref a, u1, u2, .int i3, u4, u5, .int i6, .int i7, .int i8, .int i9, .int i10, .int i11, .int i12, .int i8] : List Value) from rfl))
theorem b66_172 (d : Nat) (μ : jM) (a : Nat) (u1 : Value) (u2 : Value) (i3 : Int32) (u4 : Value) (u5 : Value) (i6 : Int32) (i7 : Int32) (i8 : Int32) (i9 : Int32) (i10 : Int32) (i11 : Int32) (i12 : Int32) (i13 : Int32) : jR (d + 1) 66 172 [.ref a, u1, u2, .int i3, u4, u5, .int i6, .int i7, .int i8, .int i9, .int i10, .int i11, .int i12, .int i13] [] μ = (if i9 < i13 then jR (d + 1) 66 244 [.ref a, u1, u2, .int i3, u4, u5, .int i6, .int i7, .int i8, .int i9, .int i10, .int i11, .int i12, .int i13] [] μ else (jgI μ 2 1 (.ref a)).bind fun x1 => (if x1 = 0 then (if i10 = 110 then (jgR μ 2 0 (.ref a)).bind fun w3 => (if jrecv μ 6 w3 = true then (jC d 101 [w3, .int i12, .int i13] μ).bind fun p4 => jR (d + 1) 66 206 [.ref a, u1, u2, .int i3, u4, u5, .int i6, .int i7, .int i8, .int i9, .int i10, .int i11, .int i12, .int i13] (p4.1.toList ++ [.int i11]) p4.2 else none) else (if jrecv μ 2 (.ref a) = true then (jC d 60 [.ref a, .int i12, .int i13, .int (i3 + 1)] μ).bind fun p2 => jR (d + 1) 66 233 [.ref a, u1, u2, .int i3, u4, u5, .int i6, .int i7, .int i8, .int i9, .int i10, .int i11, .int i12, .int i13] (p2.1.toList ++ [.int i11, .int i10]) p2.2 else none)) else jR (d + 1) 66 244 [.ref a, u1, u2, .int i3, u4, u5, .int i6, .int i7, .int i8, .int i9, .int i10, .int i11, .int i12, .int i13] [] μ)) :=
  (l_iload (show gPG 66 172 = some (.iload 13) by decide +kernel) rfl).trans <|
  (l_iload (show gPG 66 174 = some (.iload 9) by decide +kernel) rfl).trans <|
  (l_cmp (show gPG 66 176 = some (.if_icmp .gt 68) by decide +kernel) (t := 244) (by decide +kernel)).trans <| jm_gt.trans <| ite_cg (
  rfl) (
  (l_aload_n (show gPG 66 179 = some (.aload_n 0) by decide +kernel) rfl jr_ref).trans <|
  (l_gI (show gPG 66 180 = some (.getfield 25) by decide +kernel) (kd := 2) (sl := 1) (tc := 0) (fin := 0) (z := 0) (by decide +kernel) (by decide +kernel) (by decide +kernel)).trans <| bd_cg fun x1 hx1 =>
  (l_cmp0 (show gPG 66 183 = some (.ifCond .ne 61) by decide +kernel) (t := 244) (by decide +kernel)).trans <| jm_ne.trans <| ite_cg (
  (l_iload (show gPG 66 186 = some (.iload 10) by decide +kernel) rfl).trans <|
  (l_bipush (show gPG 66 188 = some (.bipush 110) by decide +kernel) (c := 110) (by decide +kernel)).trans <|
  (l_cmp (show gPG 66 190 = some (.if_icmp .ne 28) by decide +kernel) (t := 218) (by decide +kernel)).trans <| jm_ne.trans <| ite_cg (
  (l_iload (show gPG 66 193 = some (.iload 11) by decide +kernel) rfl).trans <|
  (l_aload_n (show gPG 66 195 = some (.aload_n 0) by decide +kernel) rfl jr_ref).trans <|
  (l_gR (show gPG 66 196 = some (.getfield 21) by decide +kernel) (kd := 2) (sl := 0) (tc := 1) (fin := 0) (z := 0) (by decide +kernel) (by decide +kernel) (by decide +kernel)).trans <| bd_cg fun w3 hw3 =>
  (l_iload (show gPG 66 199 = some (.iload 12) by decide +kernel) rfl).trans <|
  (l_iload (show gPG 66 201 = some (.iload 13) by decide +kernel) rfl).trans <|
  l_callV (u := 1) (v := w3) (as := [.int i12, .int i13]) (show gPG 66 203 = some (jinvI 1 106) by decide +kernel) (by decide) (cc := 101) (na := 3) (kd := 6) (q4 := 0) (z := 11) (rest := [.int i11]) (by decide +kernel) (by decide +kernel)  rfl (show (3 : Nat) ≤ 4 by decide) rfl (csi cs0) (by decide +kernel) (cai (cai (cav (jr_gR hw3) ca0)))) (
  (l_iload (show gPG 66 218 = some (.iload 10) by decide +kernel) rfl).trans <|
  (l_iload (show gPG 66 220 = some (.iload 11) by decide +kernel) rfl).trans <|
  (l_aload_n (show gPG 66 222 = some (.aload_n 0) by decide +kernel) rfl jr_ref).trans <|
  (l_iload (show gPG 66 223 = some (.iload 12) by decide +kernel) rfl).trans <|
  (l_iload (show gPG 66 225 = some (.iload 13) by decide +kernel) rfl).trans <|
  (l_iload_n (show gPG 66 227 = some (.iload_n 3) by decide +kernel) rfl).trans <|
  (l_iconst (show gPG 66 228 = some (.iconst 1) by decide +kernel) (c := 1) (by decide +kernel)).trans <|
  (l_iadd (show gPG 66 229 = some (.iadd) by decide +kernel) ).trans <|
  l_callV (u := 1) (v := .ref a) (as := [.int i12, .int i13, .int (i3 + 1)]) (show gPG 66 230 = some (jinvI 1 38) by decide +kernel) (by decide) (cc := 60) (na := 4) (kd := 2) (q4 := 0) (z := 10) (rest := [.int i11, .int i10]) (by decide +kernel) (by decide +kernel)  rfl (show (4 : Nat) ≤ 6 by decide) rfl (csi (csi cs0)) (by decide +kernel) (cai (cai (cai (cav jr_ref ca0)))))) (
  rfl))
theorem b66_206 (d : Nat) (μ : jM) (a : Nat) (u1 : Value) (u2 : Value) (i3 : Int32) (u4 : Value) (u5 : Value) (i6 : Int32) (i7 : Int32) (i8 : Int32) (i9 : Int32) (i10 : Int32) (u11 : Value) (i12 : Int32) (i13 : Int32) (s0 : Int32) (s1 : Int32) : jR d 66 206 [.ref a, u1, u2, .int i3, u4, u5, .int i6, .int i7, .int i8, .int i9, .int i10, u11, .int i12, .int i13] [.int s1, .int s0] μ = (if s1 = 0 then jR d 66 214 [.ref a, u1, u2, .int i3, u4, u5, .int i6, .int i7, .int i8, .int i9, .int i10, u11, .int i12, .int i13] [.int 0, .int s0] μ else jR d 66 214 [.ref a, u1, u2, .int i3, u4, u5, .int i6, .int i7, .int i8, .int i9, .int i10, u11, .int i12, .int i13] [.int 1, .int s0] μ) :=
  (l_cmp0 (show gPG 66 206 = some (.ifCond .ne 7) by decide +kernel) (t := 213) (by decide +kernel)).trans <| jm_ne.trans <| ite_cg (
  (l_iconst (show gPG 66 209 = some (.iconst 0) by decide +kernel) (c := 0) (by decide +kernel)).trans <|
  l_goto (show gPG 66 210 = some (.goto 4) by decide +kernel) (t := 214) (by decide +kernel)) (
  l_iconst (show gPG 66 213 = some (.iconst 1) by decide +kernel) (c := 1) (by decide +kernel))
theorem b66_214 (d : Nat) (μ : jM) (a : Nat) (u1 : Value) (u2 : Value) (i3 : Int32) (u4 : Value) (u5 : Value) (i6 : Int32) (i7 : Int32) (i8 : Int32) (i9 : Int32) (i10 : Int32) (u11 : Value) (i12 : Int32) (i13 : Int32) (s0 : Int32) (s1 : Int32) : jR d 66 214 [.ref a, u1, u2, .int i3, u4, u5, .int i6, .int i7, .int i8, .int i9, .int i10, u11, .int i12, .int i13] [.int s1, .int s0] μ = jR d 66 236 [.ref a, u1, u2, .int i3, u4, u5, .int i6, .int i7, .int i8, .int i9, .int i10, u11, .int i12, .int i13] [.int (s0 + s1)] μ :=
  (l_iadd (show gPG 66 214 = some (.iadd) by decide +kernel) ).trans <|
  l_goto (show gPG 66 215 = some (.goto 21) by decide +kernel) (t := 236) (by decide +kernel)
theorem b66_233 (d : Nat) (μ : jM) (a : Nat) (u1 : Value) (u2 : Value) (i3 : Int32) (u4 : Value) (u5 : Value) (i6 : Int32) (i7 : Int32) (i8 : Int32) (i9 : Int32) (i10 : Int32) (u11 : Value) (i12 : Int32) (i13 : Int32) (s0 : Int32) (s1 : Int32) (s2 : Int32) : jR (d + 1) 66 233 [.ref a, u1, u2, .int i3, u4, u5, .int i6, .int i7, .int i8, .int i9, .int i10, u11, .int i12, .int i13] [.int s2, .int s1, .int s0] μ = (jC d 67 [.int s0, .int s1, .int s2] μ).bind fun p1 => jR (d + 1) 66 236 [.ref a, u1, u2, .int i3, u4, u5, .int i6, .int i7, .int i8, .int i9, .int i10, u11, .int i12, .int i13] (p1.1.toList ++ []) p1.2 :=
  l_callS (u := 2) (as := [.int s0, .int s1, .int s2]) (show gPG 66 233 = some (jinvI 2 109) by decide +kernel) (by decide) (cc := 67) (na := 3) (q4 := 0) (z := 12) (rest := []) (by decide +kernel) (by decide +kernel)  rfl (show (3 : Nat) ≤ 3 by decide) rfl cs0 (by decide +kernel) (cai (cai (cai ca0))) (fun e => absurd e (by decide))
theorem b66_236 (d : Nat) (μ : jM) (a : Nat) (u1 : Value) (u2 : Value) (i3 : Int32) (u4 : Value) (u5 : Value) (i6 : Int32) (i7 : Int32) (i8 : Int32) (i9 : Int32) (i10 : Int32) (u11 : Value) (i12 : Int32) (i13 : Int32) (s0 : Int32) : jR d 66 236 [.ref a, u1, u2, .int i3, u4, u5, .int i6, .int i7, .int i8, .int i9, .int i10, u11, .int i12, .int i13] [.int s0] μ = jR d 66 172 [.ref a, u1, u2, .int i3, u4, u5, .int i6, .int i7, .int i8, .int i9, .int i10, .int s0, .int i12, .int (i13 + 1)] [] μ :=
  (l_istore (show gPG 66 236 = some (.istore 11) by decide +kernel) (ls := [.ref a, u1, u2, .int i3, u4, u5, .int i6, .int i7, .int i8, .int i9, .int i10, u11, .int i12, .int i13]) (show (11 : Nat) < 14 by decide) (show _ = ([.ref a, u1, u2, .int i3, u4, u5, .int i6, .int i7, .int i8, .int i9, .int i10, .int s0, .int i12, .int i13] : List Value) from rfl)).trans <|
  (l_iinc (show gPG 66 238 = some (.iinc 13 1) by decide +kernel) (c := 1) (by decide +kernel) rfl (show _ = ([.ref a, u1, u2, .int i3, u4, u5, .int i6, .int i7, .int i8, .int i9, .int i10, .int s0, .int i12, .int (i13 + 1)] : List Value) from rfl)).trans <|
  l_goto (show gPG 66 241 = some (.goto (-69)) by decide +kernel) (t := 172) (by decide +kernel)
theorem b66_244 (d : Nat) (μ : jM) (a : Nat) (u1 : Value) (u2 : Value) (i3 : Int32) (u4 : Value) (u5 : Value) (i6 : Int32) (i7 : Int32) (i8 : Int32) (i9 : Int32) (i10 : Int32) (i11 : Int32) (i12 : Int32) (u13 : Value) : jR d 66 244 [.ref a, u1, u2, .int i3, u4, u5, .int i6, .int i7, .int i8, .int i9, .int i10, .int i11, .int i12, u13] [] μ = jR d 66 156 [.ref a, u1, u2, .int i3, u4, u5, .int i6, .int i7, .int i8, .int i9, .int i10, .int i11, .int (i12 + 1), u13] [] μ :=
  (l_iinc (show gPG 66 244 = some (.iinc 12 1) by decide +kernel) (c := 1) (by decide +kernel) rfl (show _ = ([.ref a, u1, u2, .int i3, u4, u5, .int i6, .int i7, .int i8, .int i9, .int i10, .int i11, .int (i12 + 1), u13] : List Value) from rfl)).trans <|
  l_goto (show gPG 66 247 = some (.goto (-91)) by decide +kernel) (t := 156) (by decide +kernel)
-- Asking.joined
theorem b67_0 (d : Nat) (μ : jM) (i0 : Int32) (i1 : Int32) (i2 : Int32) : jR (d + 1) 67 0 [.int i0, .int i1, .int i2] [] μ = (if i0 = 109 then (jC d 280 [.int i1, .int i2] μ).bind fun p2 => jR (d + 1) 67 11 [.int i0, .int i1, .int i2] (p2.1.toList ++ []) p2.2 else (if i0 = 108 then (jC d 279 [.int i1, .int i2] μ).bind fun p1 => jR (d + 1) 67 25 [.int i0, .int i1, .int i2] (p1.1.toList ++ []) p1.2 else jR (d + 1) 67 31 [.int i0, .int i1, .int i2] [.int (i1 + i2)] μ)) :=
  (l_iload_n (show gPG 67 0 = some (.iload_n 0) by decide +kernel) rfl).trans <|
  (l_bipush (show gPG 67 1 = some (.bipush 109) by decide +kernel) (c := 109) (by decide +kernel)).trans <|
  (l_cmp (show gPG 67 3 = some (.if_icmp .ne 11) by decide +kernel) (t := 14) (by decide +kernel)).trans <| jm_ne.trans <| ite_cg (
  (l_iload_n (show gPG 67 6 = some (.iload_n 1) by decide +kernel) rfl).trans <|
  (l_iload_n (show gPG 67 7 = some (.iload_n 2) by decide +kernel) rfl).trans <|
  l_callS (u := 2) (as := [.int i1, .int i2]) (show gPG 67 8 = some (jinvI 2 101) by decide +kernel) (by decide) (cc := 280) (na := 2) (q4 := 0) (z := 12) (rest := []) (by decide +kernel) (by decide +kernel)  rfl (show (2 : Nat) ≤ 2 by decide) rfl cs0 (by decide +kernel) (cai (cai ca0)) (fun e => absurd e (by decide))) (
  (l_iload_n (show gPG 67 14 = some (.iload_n 0) by decide +kernel) rfl).trans <|
  (l_bipush (show gPG 67 15 = some (.bipush 108) by decide +kernel) (c := 108) (by decide +kernel)).trans <|
  (l_cmp (show gPG 67 17 = some (.if_icmp .ne 11) by decide +kernel) (t := 28) (by decide +kernel)).trans <| jm_ne.trans <| ite_cg (
  (l_iload_n (show gPG 67 20 = some (.iload_n 1) by decide +kernel) rfl).trans <|
  (l_iload_n (show gPG 67 21 = some (.iload_n 2) by decide +kernel) rfl).trans <|
  l_callS (u := 2) (as := [.int i1, .int i2]) (show gPG 67 22 = some (jinvI 2 96) by decide +kernel) (by decide) (cc := 279) (na := 2) (q4 := 0) (z := 12) (rest := []) (by decide +kernel) (by decide +kernel)  rfl (show (2 : Nat) ≤ 2 by decide) rfl cs0 (by decide +kernel) (cai (cai ca0)) (fun e => absurd e (by decide))) (
  (l_iload_n (show gPG 67 28 = some (.iload_n 1) by decide +kernel) rfl).trans <|
  (l_iload_n (show gPG 67 29 = some (.iload_n 2) by decide +kernel) rfl).trans <|
  l_iadd (show gPG 67 30 = some (.iadd) by decide +kernel) ))
theorem b67_11 (d : Nat) (μ : jM) (u0 : Value) (u1 : Value) (u2 : Value) (s0 : Int32) : jR d 67 11 [u0, u1, u2] [.int s0] μ = jR d 67 31 [u0, u1, u2] [.int s0] μ :=
  l_goto (show gPG 67 11 = some (.goto 20) by decide +kernel) (t := 31) (by decide +kernel)
theorem b67_25 (d : Nat) (μ : jM) (u0 : Value) (u1 : Value) (u2 : Value) (s0 : Int32) : jR d 67 25 [u0, u1, u2] [.int s0] μ = jR d 67 31 [u0, u1, u2] [.int s0] μ :=
  l_goto (show gPG 67 25 = some (.goto 6) by decide +kernel) (t := 31) (by decide +kernel)
theorem b67_31 (d : Nat) (μ : jM) (u0 : Value) (u1 : Value) (u2 : Value) (s0 : Int32) : jR d 67 31 [u0, u1, u2] [.int s0] μ = some (some (.int s0), μ) :=
  l_iret1 (show gPG 67 31 = some (.ireturn) by decide +kernel) (by decide +kernel)
-- Board.init
theorem b68_0 (d : Nat) (μ : jM) (a : Nat) : jR (d + 1) 68 0 [.ref a, .retAddr 0] [] μ = (jC d 87 [(.ref (jsz μ))] ((jnew μ 6 0 6))).bind fun p1 => jR (d + 1) 68 12 [.ref a, .retAddr 0] (p1.1.toList ++ [(.ref (jsz μ)), .ref a]) p1.2 :=
  (l_aload_n (show gPG 68 0 = some (.aload_n 0) by decide +kernel) rfl jr_ref).trans <|
  (l_obj (u := 3) (show gPG 68 1 = some (jinvI 3 3) by decide +kernel) (by decide) (q2 := 99) (q3 := 0) (z := 18) (by decide +kernel) (by decide +kernel) cs0 (by decide +kernel)).trans <|
  (l_aload_n (show gPG 68 4 = some (.aload_n 0) by decide +kernel) rfl jr_ref).trans <|
  (l_new (show gPG 68 5 = some (.new 9) by decide +kernel) (kd := 6) (wd := 6) (q3 := 0) (q4 := 31) (by decide +kernel)).trans <|
  (l_dup (show gPG 68 8 = some (.dup) by decide +kernel) (jr_cat1 jr_ref)).trans <|
  l_callS (u := 3) (as := [(.ref (jsz μ))]) (show gPG 68 9 = some (jinvI 3 11) by decide +kernel) (by decide) (cc := 87) (na := 1) (q4 := 0) (z := 15) (rest := [(.ref (jsz μ)), .ref a]) (by decide +kernel) (by decide +kernel)  rfl (show (1 : Nat) ≤ 3 by decide) rfl (csv jr_ref (csv jr_ref cs0)) (by decide +kernel) (cav jr_ref ca0) (fun _ => ⟨_, _, rfl⟩)
theorem b68_12 (d : Nat) (μ : jM) (a : Nat) (u1 : Value) (s0 : Value) (s1 : Nat) (hs0 : jisref s0 = true) : jR (d + 1) 68 12 [.ref a, u1] [(.ref s1), s0] μ = (jpR μ 3 0 s0 ((.ref s1))).bind fun m1 => (jC d 87 [(.ref (jsz m1))] ((jnew m1 6 0 6))).bind fun p2 => jR (d + 1) 68 23 [.ref a, u1] (p2.1.toList ++ [(.ref (jsz m1)), .ref a]) p2.2 :=
  (l_pR (show gPG 68 12 = some (.putfield 12) by decide +kernel) (kd := 3) (sl := 0) (tc := 1) (fin := 1) (z := 0) (by decide +kernel) (by decide +kernel) (by decide +kernel) jr_ref).trans <| bd_cg fun m1 hm1 =>
  (l_aload_n (show gPG 68 15 = some (.aload_n 0) by decide +kernel) rfl jr_ref).trans <|
  (l_new (show gPG 68 16 = some (.new 9) by decide +kernel) (kd := 6) (wd := 6) (q3 := 0) (q4 := 31) (by decide +kernel)).trans <|
  (l_dup (show gPG 68 19 = some (.dup) by decide +kernel) (jr_cat1 jr_ref)).trans <|
  l_callS (u := 3) (as := [(.ref (jsz m1))]) (show gPG 68 20 = some (jinvI 3 11) by decide +kernel) (by decide) (cc := 87) (na := 1) (q4 := 0) (z := 15) (rest := [(.ref (jsz m1)), .ref a]) (by decide +kernel) (by decide +kernel)  rfl (show (1 : Nat) ≤ 3 by decide) rfl (csv jr_ref (csv jr_ref cs0)) (by decide +kernel) (cav jr_ref ca0) (fun _ => ⟨_, _, rfl⟩)
theorem b68_23 (d : Nat) (μ : jM) (a : Nat) (u1 : Value) (s0 : Value) (s1 : Nat) (hs0 : jisref s0 = true) : jR (d + 1) 68 23 [.ref a, u1] [(.ref s1), s0] μ = (jpR μ 3 1 s0 ((.ref s1))).bind fun m1 => (jC d 87 [(.ref (jsz m1))] ((jnew m1 6 0 6))).bind fun p2 => jR (d + 1) 68 34 [.ref a, u1] (p2.1.toList ++ [(.ref (jsz m1)), .ref a]) p2.2 :=
  (l_pR (show gPG 68 23 = some (.putfield 18) by decide +kernel) (kd := 3) (sl := 1) (tc := 1) (fin := 1) (z := 0) (by decide +kernel) (by decide +kernel) (by decide +kernel) jr_ref).trans <| bd_cg fun m1 hm1 =>
  (l_aload_n (show gPG 68 26 = some (.aload_n 0) by decide +kernel) rfl jr_ref).trans <|
  (l_new (show gPG 68 27 = some (.new 9) by decide +kernel) (kd := 6) (wd := 6) (q3 := 0) (q4 := 31) (by decide +kernel)).trans <|
  (l_dup (show gPG 68 30 = some (.dup) by decide +kernel) (jr_cat1 jr_ref)).trans <|
  l_callS (u := 3) (as := [(.ref (jsz m1))]) (show gPG 68 31 = some (jinvI 3 11) by decide +kernel) (by decide) (cc := 87) (na := 1) (q4 := 0) (z := 15) (rest := [(.ref (jsz m1)), .ref a]) (by decide +kernel) (by decide +kernel)  rfl (show (1 : Nat) ≤ 3 by decide) rfl (csv jr_ref (csv jr_ref cs0)) (by decide +kernel) (cav jr_ref ca0) (fun _ => ⟨_, _, rfl⟩)
theorem b68_34 (d : Nat) (μ : jM) (a : Nat) (u1 : Value) (s0 : Value) (s1 : Nat) (hs0 : jisref s0 = true) : jR (d + 1) 68 34 [.ref a, u1] [(.ref s1), s0] μ = (jpR μ 3 2 s0 ((.ref s1))).bind fun m1 => (jC d 87 [(.ref (jsz m1))] ((jnew m1 6 0 6))).bind fun p2 => jR (d + 1) 68 45 [.ref a, u1] (p2.1.toList ++ [(.ref (jsz m1)), .ref a]) p2.2 :=
  (l_pR (show gPG 68 34 = some (.putfield 21) by decide +kernel) (kd := 3) (sl := 2) (tc := 1) (fin := 1) (z := 0) (by decide +kernel) (by decide +kernel) (by decide +kernel) jr_ref).trans <| bd_cg fun m1 hm1 =>
  (l_aload_n (show gPG 68 37 = some (.aload_n 0) by decide +kernel) rfl jr_ref).trans <|
  (l_new (show gPG 68 38 = some (.new 9) by decide +kernel) (kd := 6) (wd := 6) (q3 := 0) (q4 := 31) (by decide +kernel)).trans <|
  (l_dup (show gPG 68 41 = some (.dup) by decide +kernel) (jr_cat1 jr_ref)).trans <|
  l_callS (u := 3) (as := [(.ref (jsz m1))]) (show gPG 68 42 = some (jinvI 3 11) by decide +kernel) (by decide) (cc := 87) (na := 1) (q4 := 0) (z := 15) (rest := [(.ref (jsz m1)), .ref a]) (by decide +kernel) (by decide +kernel)  rfl (show (1 : Nat) ≤ 3 by decide) rfl (csv jr_ref (csv jr_ref cs0)) (by decide +kernel) (cav jr_ref ca0) (fun _ => ⟨_, _, rfl⟩)
theorem b68_45 (d : Nat) (μ : jM) (a : Nat) (u1 : Value) (s0 : Value) (s1 : Nat) (hs0 : jisref s0 = true) : jR (d + 1) 68 45 [.ref a, u1] [(.ref s1), s0] μ = (jpR μ 3 3 s0 ((.ref s1))).bind fun m1 => (jC d 121 [(.ref (jsz m1))] ((jnew m1 8 0 2))).bind fun p2 => jR (d + 1) 68 56 [.ref a, u1] (p2.1.toList ++ [(.ref (jsz m1)), .ref a]) p2.2 :=
  (l_pR (show gPG 68 45 = some (.putfield 24) by decide +kernel) (kd := 3) (sl := 3) (tc := 1) (fin := 1) (z := 0) (by decide +kernel) (by decide +kernel) (by decide +kernel) jr_ref).trans <| bd_cg fun m1 hm1 =>
  (l_aload_n (show gPG 68 48 = some (.aload_n 0) by decide +kernel) rfl jr_ref).trans <|
  (l_new (show gPG 68 49 = some (.new 27) by decide +kernel) (kd := 8) (wd := 2) (q3 := 0) (q4 := 0) (by decide +kernel)).trans <|
  (l_dup (show gPG 68 52 = some (.dup) by decide +kernel) (jr_cat1 jr_ref)).trans <|
  l_callS (u := 3) (as := [(.ref (jsz m1))]) (show gPG 68 53 = some (jinvI 3 29) by decide +kernel) (by decide) (cc := 121) (na := 1) (q4 := 0) (z := 15) (rest := [(.ref (jsz m1)), .ref a]) (by decide +kernel) (by decide +kernel)  rfl (show (1 : Nat) ≤ 3 by decide) rfl (csv jr_ref (csv jr_ref cs0)) (by decide +kernel) (cav jr_ref ca0) (fun _ => ⟨_, _, rfl⟩)
theorem b68_56 (d : Nat) (μ : jM) (a : Nat) (u1 : Value) (s0 : Value) (s1 : Nat) (hs0 : jisref s0 = true) : jR d 68 56 [.ref a, u1] [(.ref s1), s0] μ = (jpR μ 3 4 s0 ((.ref s1))).bind fun m1 => (jpR ((jnew m1 31 18 18)) 3 5 (.ref a) ((.ref (jsz m1)))).bind fun m2 => jR d 68 70 [.ref a, .int 0] [] m2 :=
  (l_pR (show gPG 68 56 = some (.putfield 30) by decide +kernel) (kd := 3) (sl := 4) (tc := 1) (fin := 1) (z := 0) (by decide +kernel) (by decide +kernel) (by decide +kernel) jr_ref).trans <| bd_cg fun m1 hm1 =>
  (l_aload_n (show gPG 68 59 = some (.aload_n 0) by decide +kernel) rfl jr_ref).trans <|
  (l_bipush (show gPG 68 60 = some (.bipush 18) by decide +kernel) (c := 18) (by decide +kernel)).trans <|
  (l_anewaK (show gPG 68 62 = some (.anewarray 9) by decide +kernel) (q1 := 6) (q2 := 6) (q3 := 0) (kd := 31) (N := 18) (by decide +kernel) (by decide +kernel)).trans <|
  (l_pR (show gPG 68 65 = some (.putfield 34) by decide +kernel) (kd := 3) (sl := 5) (tc := 1) (fin := 1) (z := 0) (by decide +kernel) (by decide +kernel) (by decide +kernel) jr_ref).trans <| bd_cg fun m2 hm2 =>
  (l_iconst (show gPG 68 68 = some (.iconst 0) by decide +kernel) (c := 0) (by decide +kernel)).trans <|
  l_istore_n (show gPG 68 69 = some (.istore_n 1) by decide +kernel) (ls := [.ref a, u1]) (show (1 : Nat) < 2 by decide) (show _ = ([.ref a, .int 0] : List Value) from rfl)
theorem b68_70 (d : Nat) (μ : jM) (a : Nat) (i1 : Int32) : jR (d + 1) 68 70 [.ref a, .int i1] [] μ = (jgR μ 3 5 (.ref a)).bind fun w1 => (jal μ w1).bind fun x2 => (if i1 < x2 then (jgR μ 3 5 (.ref a)).bind fun w3 => (jC d 87 [(.ref (jsz μ))] ((jnew μ 6 0 6))).bind fun p4 => jR (d + 1) 68 91 [.ref a, .int i1] (p4.1.toList ++ [(.ref (jsz μ)), .int i1, w3]) p4.2 else some (none, μ)) :=
  (l_iload_n (show gPG 68 70 = some (.iload_n 1) by decide +kernel) rfl).trans <|
  (l_aload_n (show gPG 68 71 = some (.aload_n 0) by decide +kernel) rfl jr_ref).trans <|
  (l_gR (show gPG 68 72 = some (.getfield 34) by decide +kernel) (kd := 3) (sl := 5) (tc := 1) (fin := 1) (z := 0) (by decide +kernel) (by decide +kernel) (by decide +kernel)).trans <| bd_cg fun w1 hw1 =>
  (l_alen (show gPG 68 75 = some (.arraylength) by decide +kernel) ).trans <| bd_cg fun x2 hx2 =>
  (l_cmp (show gPG 68 76 = some (.if_icmp .ge 22) by decide +kernel) (t := 98) (by decide +kernel)).trans <| jm_ge.trans <| ite_cg (
  (l_aload_n (show gPG 68 79 = some (.aload_n 0) by decide +kernel) rfl jr_ref).trans <|
  (l_gR (show gPG 68 80 = some (.getfield 34) by decide +kernel) (kd := 3) (sl := 5) (tc := 1) (fin := 1) (z := 0) (by decide +kernel) (by decide +kernel) (by decide +kernel)).trans <| bd_cg fun w3 hw3 =>
  (l_iload_n (show gPG 68 83 = some (.iload_n 1) by decide +kernel) rfl).trans <|
  (l_new (show gPG 68 84 = some (.new 9) by decide +kernel) (kd := 6) (wd := 6) (q3 := 0) (q4 := 31) (by decide +kernel)).trans <|
  (l_dup (show gPG 68 87 = some (.dup) by decide +kernel) (jr_cat1 jr_ref)).trans <|
  l_callS (u := 3) (as := [(.ref (jsz μ))]) (show gPG 68 88 = some (jinvI 3 11) by decide +kernel) (by decide) (cc := 87) (na := 1) (q4 := 0) (z := 15) (rest := [(.ref (jsz μ)), .int i1, w3]) (by decide +kernel) (by decide +kernel)  rfl (show (1 : Nat) ≤ 4 by decide) rfl (csv jr_ref (csi (csv (jr_gR hw3) cs0))) (by decide +kernel) (cav jr_ref ca0) (fun _ => ⟨_, _, rfl⟩)) (
  l_ret (show gPG 68 98 = some (.return_) by decide +kernel) (by decide +kernel))
theorem b68_91 (d : Nat) (μ : jM) (a : Nat) (i1 : Int32) (s0 : Value) (s1 : Int32) (s2 : Nat) (hs0 : jisref s0 = true) : jR d 68 91 [.ref a, .int i1] [(.ref s2), .int s1, s0] μ = (jsR μ s0 s1 ((.ref s2))).bind fun m1 => jR d 68 70 [.ref a, .int (i1 + 1)] [] m1 :=
  (l_aast (show gPG 68 91 = some (.aastore) by decide +kernel) ).trans <| bd_cg fun m1 hm1 =>
  (l_iinc (show gPG 68 92 = some (.iinc 1 1) by decide +kernel) (c := 1) (by decide +kernel) rfl (show _ = ([.ref a, .int (i1 + 1)] : List Value) from rfl)).trans <|
  l_goto (show gPG 68 95 = some (.goto (-25)) by decide +kernel) (t := 70) (by decide +kernel)
-- Board.gridAt
theorem b69_0 (d : Nat) (μ : jM) (a : Nat) (i1 : Int32) : jR d 69 0 [.ref a, .int i1] [] μ = (if i1 = 0 then (jgR μ 3 0 (.ref a)).bind fun w4 => jR d 69 39 [.ref a, .int i1] [w4] μ else (if i1 = 1 then (jgR μ 3 1 (.ref a)).bind fun w3 => jR d 69 39 [.ref a, .int i1] [w3] μ else (if i1 = 2 then (jgR μ 3 2 (.ref a)).bind fun w2 => jR d 69 39 [.ref a, .int i1] [w2] μ else (jgR μ 3 3 (.ref a)).bind fun w1 => jR d 69 39 [.ref a, .int i1] [w1] μ))) :=
  (l_iload_n (show gPG 69 0 = some (.iload_n 1) by decide +kernel) rfl).trans <|
  (l_cmp0 (show gPG 69 1 = some (.ifCond .ne 10) by decide +kernel) (t := 11) (by decide +kernel)).trans <| jm_ne.trans <| ite_cg (
  (l_aload_n (show gPG 69 4 = some (.aload_n 0) by decide +kernel) rfl jr_ref).trans <|
  (l_gR (show gPG 69 5 = some (.getfield 12) by decide +kernel) (kd := 3) (sl := 0) (tc := 1) (fin := 1) (z := 0) (by decide +kernel) (by decide +kernel) (by decide +kernel)).trans <| bd_cg fun w4 hw4 =>
  l_goto (show gPG 69 8 = some (.goto 31) by decide +kernel) (t := 39) (by decide +kernel)) (
  (l_iload_n (show gPG 69 11 = some (.iload_n 1) by decide +kernel) rfl).trans <|
  (l_iconst (show gPG 69 12 = some (.iconst 1) by decide +kernel) (c := 1) (by decide +kernel)).trans <|
  (l_cmp (show gPG 69 13 = some (.if_icmp .ne 10) by decide +kernel) (t := 23) (by decide +kernel)).trans <| jm_ne.trans <| ite_cg (
  (l_aload_n (show gPG 69 16 = some (.aload_n 0) by decide +kernel) rfl jr_ref).trans <|
  (l_gR (show gPG 69 17 = some (.getfield 18) by decide +kernel) (kd := 3) (sl := 1) (tc := 1) (fin := 1) (z := 0) (by decide +kernel) (by decide +kernel) (by decide +kernel)).trans <| bd_cg fun w3 hw3 =>
  l_goto (show gPG 69 20 = some (.goto 19) by decide +kernel) (t := 39) (by decide +kernel)) (
  (l_iload_n (show gPG 69 23 = some (.iload_n 1) by decide +kernel) rfl).trans <|
  (l_iconst (show gPG 69 24 = some (.iconst 2) by decide +kernel) (c := 2) (by decide +kernel)).trans <|
  (l_cmp (show gPG 69 25 = some (.if_icmp .ne 10) by decide +kernel) (t := 35) (by decide +kernel)).trans <| jm_ne.trans <| ite_cg (
  (l_aload_n (show gPG 69 28 = some (.aload_n 0) by decide +kernel) rfl jr_ref).trans <|
  (l_gR (show gPG 69 29 = some (.getfield 21) by decide +kernel) (kd := 3) (sl := 2) (tc := 1) (fin := 1) (z := 0) (by decide +kernel) (by decide +kernel) (by decide +kernel)).trans <| bd_cg fun w2 hw2 =>
  l_goto (show gPG 69 32 = some (.goto 7) by decide +kernel) (t := 39) (by decide +kernel)) (
  (l_aload_n (show gPG 69 35 = some (.aload_n 0) by decide +kernel) rfl jr_ref).trans <|
  (l_gR (show gPG 69 36 = some (.getfield 24) by decide +kernel) (kd := 3) (sl := 3) (tc := 1) (fin := 1) (z := 0) (by decide +kernel) (by decide +kernel) (by decide +kernel)).trans <| bd_cg fun w1 hw1 =>
  rfl)))
theorem b69_39 (d : Nat) (μ : jM) (u0 : Value) (u1 : Value) (s0 : Value) (hs0 : jisref s0 = true) : jR d 69 39 [u0, u1] [s0] μ = some (some s0, μ) :=
  l_aret (show gPG 69 39 = some (.areturn) by decide +kernel) (by decide +kernel) hs0
-- Board.keepForUndo
theorem b70_0 (d : Nat) (μ : jM) (a : Nat) : jR d 70 0 [.ref a, .retAddr 0] [] μ = jR d 70 2 [.ref a, .int 0] [] μ :=
  (l_iconst (show gPG 70 0 = some (.iconst 0) by decide +kernel) (c := 0) (by decide +kernel)).trans <|
  l_istore_n (show gPG 70 1 = some (.istore_n 1) by decide +kernel) (ls := [.ref a, .retAddr 0]) (show (1 : Nat) < 2 by decide) (show _ = ([.ref a, .int 0] : List Value) from rfl)
theorem b70_2 (d : Nat) (μ : jM) (a : Nat) (i1 : Int32) : jR (d + 1) 70 2 [.ref a, .int i1] [] μ = (if i1 < 3 then (jgR μ 3 5 (.ref a)).bind fun w5 => (jgI μ 3 6 (.ref a)).bind fun x6 => (jaR μ w5 ((x6 * 3) + i1)).bind fun w7 => (if jrecv μ 3 (.ref a) = true then (jC d 69 [.ref a, .int i1] μ).bind fun p8 => jR (d + 1) 70 25 [.ref a, .int i1] (p8.1.toList ++ [w7]) p8.2 else none) else (jgI μ 3 6 (.ref a)).bind fun x1 => (jpI μ 3 6 0 (.ref a) ((x1 + 1) - (x1 + 1) / 6 * 6)).bind fun m2 => (jgI m2 3 7 (.ref a)).bind fun x3 => (jC d 279 [.int (x3 + 1), .int 6] m2).bind fun p4 => jR (d + 1) 70 59 [.ref a, .int i1] (p4.1.toList ++ [.ref a]) p4.2) :=
  (l_iload_n (show gPG 70 2 = some (.iload_n 1) by decide +kernel) rfl).trans <|
  (l_iconst (show gPG 70 3 = some (.iconst 3) by decide +kernel) (c := 3) (by decide +kernel)).trans <|
  (l_cmp (show gPG 70 4 = some (.if_icmp .ge 30) by decide +kernel) (t := 34) (by decide +kernel)).trans <| jm_ge.trans <| ite_cg (
  (l_aload_n (show gPG 70 7 = some (.aload_n 0) by decide +kernel) rfl jr_ref).trans <|
  (l_gR (show gPG 70 8 = some (.getfield 34) by decide +kernel) (kd := 3) (sl := 5) (tc := 1) (fin := 1) (z := 0) (by decide +kernel) (by decide +kernel) (by decide +kernel)).trans <| bd_cg fun w5 hw5 =>
  (l_aload_n (show gPG 70 11 = some (.aload_n 0) by decide +kernel) rfl jr_ref).trans <|
  (l_gI (show gPG 70 12 = some (.getfield 38) by decide +kernel) (kd := 3) (sl := 6) (tc := 0) (fin := 0) (z := 0) (by decide +kernel) (by decide +kernel) (by decide +kernel)).trans <| bd_cg fun x6 hx6 =>
  (l_iconst (show gPG 70 15 = some (.iconst 3) by decide +kernel) (c := 3) (by decide +kernel)).trans <|
  (l_imul (show gPG 70 16 = some (.imul) by decide +kernel) ).trans <|
  (l_iload_n (show gPG 70 17 = some (.iload_n 1) by decide +kernel) rfl).trans <|
  (l_iadd (show gPG 70 18 = some (.iadd) by decide +kernel) ).trans <|
  (l_aald (show gPG 70 19 = some (.aaload) by decide +kernel) ).trans <| bd_cg fun w7 hw7 =>
  (l_aload_n (show gPG 70 20 = some (.aload_n 0) by decide +kernel) rfl jr_ref).trans <|
  (l_iload_n (show gPG 70 21 = some (.iload_n 1) by decide +kernel) rfl).trans <|
  l_callV (u := 1) (v := .ref a) (as := [.int i1]) (show gPG 70 22 = some (jinvI 1 42) by decide +kernel) (by decide) (cc := 69) (na := 2) (kd := 3) (q4 := 0) (z := 10) (rest := [w7]) (by decide +kernel) (by decide +kernel)  rfl (show (2 : Nat) ≤ 3 by decide) rfl (csv (jr_aR hw7) cs0) (by decide +kernel) (cai (cav jr_ref ca0))) (
  (l_aload_n (show gPG 70 34 = some (.aload_n 0) by decide +kernel) rfl jr_ref).trans <|
  (l_aload_n (show gPG 70 35 = some (.aload_n 0) by decide +kernel) rfl jr_ref).trans <|
  (l_gI (show gPG 70 36 = some (.getfield 38) by decide +kernel) (kd := 3) (sl := 6) (tc := 0) (fin := 0) (z := 0) (by decide +kernel) (by decide +kernel) (by decide +kernel)).trans <| bd_cg fun x1 hx1 =>
  (l_iconst (show gPG 70 39 = some (.iconst 1) by decide +kernel) (c := 1) (by decide +kernel)).trans <|
  (l_iadd (show gPG 70 40 = some (.iadd) by decide +kernel) ).trans <|
  (l_bipush (show gPG 70 41 = some (.bipush 6) by decide +kernel) (c := 6) (by decide +kernel)).trans <|
  (l_iremK (show gPG 70 43 = some (.irem) by decide +kernel) (by decide +kernel)).trans <|
  (l_pI (show gPG 70 44 = some (.putfield 38) by decide +kernel) (kd := 3) (sl := 6) (tc := 0) (fin := 0) (z := 0) (by decide +kernel) (by decide +kernel) (by decide +kernel)).trans <| bd_cg fun m2 hm2 =>
  (l_aload_n (show gPG 70 47 = some (.aload_n 0) by decide +kernel) rfl jr_ref).trans <|
  (l_aload_n (show gPG 70 48 = some (.aload_n 0) by decide +kernel) rfl jr_ref).trans <|
  (l_gI (show gPG 70 49 = some (.getfield 50) by decide +kernel) (kd := 3) (sl := 7) (tc := 0) (fin := 0) (z := 0) (by decide +kernel) (by decide +kernel) (by decide +kernel)).trans <| bd_cg fun x3 hx3 =>
  (l_iconst (show gPG 70 52 = some (.iconst 1) by decide +kernel) (c := 1) (by decide +kernel)).trans <|
  (l_iadd (show gPG 70 53 = some (.iadd) by decide +kernel) ).trans <|
  (l_bipush (show gPG 70 54 = some (.bipush 6) by decide +kernel) (c := 6) (by decide +kernel)).trans <|
  l_callS (u := 2) (as := [.int (x3 + 1), .int 6]) (show gPG 70 56 = some (jinvI 2 53) by decide +kernel) (by decide) (cc := 279) (na := 2) (q4 := 0) (z := 12) (rest := [.ref a]) (by decide +kernel) (by decide +kernel)  rfl (show (2 : Nat) ≤ 3 by decide) rfl (csv jr_ref cs0) (by decide +kernel) (cai (cai ca0)) (fun e => absurd e (by decide)))
theorem b70_25 (d : Nat) (μ : jM) (a : Nat) (i1 : Int32) (s0 : Value) (s1 : Value) (hs0 : jisref s0 = true) (hs1 : jisref s1 = true) : jR (d + 1) 70 25 [.ref a, .int i1] [s1, s0] μ = (if jrecv μ 6 s0 = true then (jC d 90 [s0, s1] μ).bind fun p1 => jR (d + 1) 70 28 [.ref a, .int i1] (p1.1.toList ++ []) p1.2 else none) :=
  l_callV (u := 1) (v := s0) (as := [s1]) (show gPG 70 25 = some (jinvI 1 46) by decide +kernel) (by decide) (cc := 90) (na := 2) (kd := 6) (q4 := 0) (z := 11) (rest := []) (by decide +kernel) (by decide +kernel)  rfl (show (2 : Nat) ≤ 2 by decide) rfl cs0 (by decide +kernel) (cav hs1 (cav hs0 ca0))
theorem b70_28 (d : Nat) (μ : jM) (a : Nat) (i1 : Int32) : jR d 70 28 [.ref a, .int i1] [] μ = jR d 70 2 [.ref a, .int (i1 + 1)] [] μ :=
  (l_iinc (show gPG 70 28 = some (.iinc 1 1) by decide +kernel) (c := 1) (by decide +kernel) rfl (show _ = ([.ref a, .int (i1 + 1)] : List Value) from rfl)).trans <|
  l_goto (show gPG 70 31 = some (.goto (-29)) by decide +kernel) (t := 2) (by decide +kernel)
theorem b70_59 (d : Nat) (μ : jM) (u0 : Value) (u1 : Value) (s0 : Value) (s1 : Int32) (hs0 : jisref s0 = true) : jR d 70 59 [u0, u1] [.int s1, s0] μ = (jpI μ 3 7 0 s0 s1).bind fun m1 => some (none, m1) :=
  (l_pI (show gPG 70 59 = some (.putfield 50) by decide +kernel) (kd := 3) (sl := 7) (tc := 0) (fin := 0) (z := 0) (by decide +kernel) (by decide +kernel) (by decide +kernel)).trans <| bd_cg fun m1 hm1 =>
  l_ret (show gPG 70 62 = some (.return_) by decide +kernel) (by decide +kernel)
-- Board.mergedAsIn
theorem b71_0 (d : Nat) (μ : jM) (a : Nat) (r1 : Value) (i2 : Int32) (i3 : Int32) (i4 : Int32) (h1 : jisref r1 = true) : jR (d + 1) 71 0 [.ref a, r1, .int i2, .int i3, .int i4, .retAddr 0, .retAddr 0] [] μ = (jgR μ 3 3 (.ref a)).bind fun w1 => (if jrecv μ 6 w1 = true then (jC d 92 [w1, .int i3] μ).bind fun p2 => jR (d + 1) 71 8 [.ref a, r1, .int i2, .int i3, .int i4, .retAddr 0, .retAddr 0] (p2.1.toList ++ []) p2.2 else none) :=
  (l_aload_n (show gPG 71 0 = some (.aload_n 0) by decide +kernel) rfl jr_ref).trans <|
  (l_gR (show gPG 71 1 = some (.getfield 24) by decide +kernel) (kd := 3) (sl := 3) (tc := 1) (fin := 1) (z := 0) (by decide +kernel) (by decide +kernel) (by decide +kernel)).trans <| bd_cg fun w1 hw1 =>
  (l_iload_n (show gPG 71 4 = some (.iload_n 3) by decide +kernel) rfl).trans <|
  l_callV (u := 1) (v := w1) (as := [.int i3]) (show gPG 71 5 = some (jinvI 1 59) by decide +kernel) (by decide) (cc := 92) (na := 2) (kd := 6) (q4 := 0) (z := 11) (rest := []) (by decide +kernel) (by decide +kernel)  rfl (show (2 : Nat) ≤ 2 by decide) rfl cs0 (by decide +kernel) (cai (cav (jr_gR hw1) ca0))
theorem b71_8 (d : Nat) (μ : jM) (a : Nat) (r1 : Value) (i2 : Int32) (i3 : Int32) (i4 : Int32) (u5 : Value) (u6 : Value) (s0 : Int32) (h1 : jisref r1 = true) : jR (d + 1) 71 8 [.ref a, r1, .int i2, .int i3, .int i4, u5, u6] [.int s0] μ = (if jrecv μ 6 r1 = true then (jC d 92 [r1, .int i3] μ).bind fun p1 => jR (d + 1) 71 15 [.ref a, r1, .int i2, .int i3, .int i4, .int s0, u6] (p1.1.toList ++ []) p1.2 else none) :=
  (l_istore (show gPG 71 8 = some (.istore 5) by decide +kernel) (ls := [.ref a, r1, .int i2, .int i3, .int i4, u5, u6]) (show (5 : Nat) < 7 by decide) (show _ = ([.ref a, r1, .int i2, .int i3, .int i4, .int s0, u6] : List Value) from rfl)).trans <|
  (l_aload_n (show gPG 71 10 = some (.aload_n 1) by decide +kernel) rfl h1).trans <|
  (l_iload_n (show gPG 71 11 = some (.iload_n 3) by decide +kernel) rfl).trans <|
  l_callV (u := 1) (v := r1) (as := [.int i3]) (show gPG 71 12 = some (jinvI 1 59) by decide +kernel) (by decide) (cc := 92) (na := 2) (kd := 6) (q4 := 0) (z := 11) (rest := []) (by decide +kernel) (by decide +kernel)  rfl (show (2 : Nat) ≤ 2 by decide) rfl cs0 (by decide +kernel) (cai (cav h1 ca0))
theorem b71_15 (d : Nat) (μ : jM) (a : Nat) (r1 : Value) (i2 : Int32) (u3 : Value) (i4 : Int32) (i5 : Int32) (u6 : Value) (s0 : Int32) (h1 : jisref r1 = true) : jR (d + 1) 71 15 [.ref a, r1, .int i2, u3, .int i4, .int i5, u6] [.int s0] μ = (if i2 = 1 then (jgR μ 3 3 (.ref a)).bind fun w7 => (if jrecv μ 6 w7 = true then (jC d 109 [w7, r1, .int s0, .int i5, .int i4] μ).bind fun p8 => jR (d + 1) 71 36 [.ref a, r1, .int i2, u3, .int i4, .int i5, .int s0] (p8.1.toList ++ []) p8.2 else none) else (if i2 = 3 then (jgR μ 3 3 (.ref a)).bind fun w5 => (if jrecv μ 6 r1 = true then (jC d 99 [r1, .int s0, .int i4] μ).bind fun p6 => jR (d + 1) 71 60 [.ref a, r1, .int i2, u3, .int i4, .int i5, .int s0] (p6.1.toList ++ [.int i4, .int i5, w5]) p6.2 else none) else (if s0 = (-1) then (jgR μ 3 3 (.ref a)).bind fun w3 => (if jrecv μ 6 w3 = true then (jC d 98 [w3, .int i5] μ).bind fun p4 => jR (d + 1) 71 81 [.ref a, r1, .int i2, u3, .int i4, .int i5, .int s0] (p4.1.toList ++ []) p4.2 else none) else (jgR μ 3 3 (.ref a)).bind fun w1 => (if jrecv μ 6 w1 = true then (jC d 108 [w1, r1, .int s0, .int i5] μ).bind fun p2 => jR (d + 1) 71 96 [.ref a, r1, .int i2, u3, .int i4, .int i5, .int s0] (p2.1.toList ++ []) p2.2 else none)))) :=
  (l_istore (show gPG 71 15 = some (.istore 6) by decide +kernel) (ls := [.ref a, r1, .int i2, u3, .int i4, .int i5, u6]) (show (6 : Nat) < 7 by decide) (show _ = ([.ref a, r1, .int i2, u3, .int i4, .int i5, .int s0] : List Value) from rfl)).trans <|
  (l_iload_n (show gPG 71 17 = some (.iload_n 2) by decide +kernel) rfl).trans <|
  (l_iconst (show gPG 71 18 = some (.iconst 1) by decide +kernel) (c := 1) (by decide +kernel)).trans <|
  (l_cmp (show gPG 71 19 = some (.if_icmp .ne 20) by decide +kernel) (t := 39) (by decide +kernel)).trans <| jm_ne.trans <| ite_cg (
  (l_aload_n (show gPG 71 22 = some (.aload_n 0) by decide +kernel) rfl jr_ref).trans <|
  (l_gR (show gPG 71 23 = some (.getfield 24) by decide +kernel) (kd := 3) (sl := 3) (tc := 1) (fin := 1) (z := 0) (by decide +kernel) (by decide +kernel) (by decide +kernel)).trans <| bd_cg fun w7 hw7 =>
  (l_aload_n (show gPG 71 26 = some (.aload_n 1) by decide +kernel) rfl h1).trans <|
  (l_iload (show gPG 71 27 = some (.iload 6) by decide +kernel) rfl).trans <|
  (l_iload (show gPG 71 29 = some (.iload 5) by decide +kernel) rfl).trans <|
  (l_iload (show gPG 71 31 = some (.iload 4) by decide +kernel) rfl).trans <|
  l_callV (u := 1) (v := w7) (as := [r1, .int s0, .int i5, .int i4]) (show gPG 71 33 = some (jinvI 1 63) by decide +kernel) (by decide) (cc := 109) (na := 5) (kd := 6) (q4 := 0) (z := 11) (rest := []) (by decide +kernel) (by decide +kernel)  rfl (show (5 : Nat) ≤ 5 by decide) rfl cs0 (by decide +kernel) (cai (cai (cai (cav h1 (cav (jr_gR hw7) ca0)))))) (
  (l_iload_n (show gPG 71 39 = some (.iload_n 2) by decide +kernel) rfl).trans <|
  (l_iconst (show gPG 71 40 = some (.iconst 3) by decide +kernel) (c := 3) (by decide +kernel)).trans <|
  (l_cmp (show gPG 71 41 = some (.if_icmp .ne 25) by decide +kernel) (t := 66) (by decide +kernel)).trans <| jm_ne.trans <| ite_cg (
  (l_aload_n (show gPG 71 44 = some (.aload_n 0) by decide +kernel) rfl jr_ref).trans <|
  (l_gR (show gPG 71 45 = some (.getfield 24) by decide +kernel) (kd := 3) (sl := 3) (tc := 1) (fin := 1) (z := 0) (by decide +kernel) (by decide +kernel) (by decide +kernel)).trans <| bd_cg fun w5 hw5 =>
  (l_iload (show gPG 71 48 = some (.iload 5) by decide +kernel) rfl).trans <|
  (l_iload (show gPG 71 50 = some (.iload 4) by decide +kernel) rfl).trans <|
  (l_aload_n (show gPG 71 52 = some (.aload_n 1) by decide +kernel) rfl h1).trans <|
  (l_iload (show gPG 71 53 = some (.iload 6) by decide +kernel) rfl).trans <|
  (l_iload (show gPG 71 55 = some (.iload 4) by decide +kernel) rfl).trans <|
  l_callV (u := 1) (v := r1) (as := [.int s0, .int i4]) (show gPG 71 57 = some (jinvI 1 67) by decide +kernel) (by decide) (cc := 99) (na := 3) (kd := 6) (q4 := 0) (z := 11) (rest := [.int i4, .int i5, w5]) (by decide +kernel) (by decide +kernel)  rfl (show (3 : Nat) ≤ 6 by decide) rfl (csi (csi (csv (jr_gR hw5) cs0))) (by decide +kernel) (cai (cai (cav h1 ca0)))) (
  (l_iload (show gPG 71 66 = some (.iload 6) by decide +kernel) rfl).trans <|
  (l_iconst (show gPG 71 68 = some (.iconst (-1)) by decide +kernel) (c := (-1)) (by decide +kernel)).trans <|
  (l_cmp (show gPG 71 69 = some (.if_icmp .ne 15) by decide +kernel) (t := 84) (by decide +kernel)).trans <| jm_ne.trans <| ite_cg (
  (l_aload_n (show gPG 71 72 = some (.aload_n 0) by decide +kernel) rfl jr_ref).trans <|
  (l_gR (show gPG 71 73 = some (.getfield 24) by decide +kernel) (kd := 3) (sl := 3) (tc := 1) (fin := 1) (z := 0) (by decide +kernel) (by decide +kernel) (by decide +kernel)).trans <| bd_cg fun w3 hw3 =>
  (l_iload (show gPG 71 76 = some (.iload 5) by decide +kernel) rfl).trans <|
  l_callV (u := 1) (v := w3) (as := [.int i5]) (show gPG 71 78 = some (jinvI 1 74) by decide +kernel) (by decide) (cc := 98) (na := 2) (kd := 6) (q4 := 0) (z := 11) (rest := []) (by decide +kernel) (by decide +kernel)  rfl (show (2 : Nat) ≤ 2 by decide) rfl cs0 (by decide +kernel) (cai (cav (jr_gR hw3) ca0))) (
  (l_aload_n (show gPG 71 84 = some (.aload_n 0) by decide +kernel) rfl jr_ref).trans <|
  (l_gR (show gPG 71 85 = some (.getfield 24) by decide +kernel) (kd := 3) (sl := 3) (tc := 1) (fin := 1) (z := 0) (by decide +kernel) (by decide +kernel) (by decide +kernel)).trans <| bd_cg fun w1 hw1 =>
  (l_aload_n (show gPG 71 88 = some (.aload_n 1) by decide +kernel) rfl h1).trans <|
  (l_iload (show gPG 71 89 = some (.iload 6) by decide +kernel) rfl).trans <|
  (l_iload (show gPG 71 91 = some (.iload 5) by decide +kernel) rfl).trans <|
  l_callV (u := 1) (v := w1) (as := [r1, .int s0, .int i5]) (show gPG 71 93 = some (jinvI 1 78) by decide +kernel) (by decide) (cc := 108) (na := 4) (kd := 6) (q4 := 0) (z := 11) (rest := []) (by decide +kernel) (by decide +kernel)  rfl (show (4 : Nat) ≤ 4 by decide) rfl cs0 (by decide +kernel) (cai (cai (cav h1 (cav (jr_gR hw1) ca0)))))))
theorem b71_36 (d : Nat) (μ : jM) (u0 : Value) (u1 : Value) (u2 : Value) (u3 : Value) (u4 : Value) (u5 : Value) (u6 : Value) : jR d 71 36 [u0, u1, u2, u3, u4, u5, u6] [] μ = jR d 71 96 [u0, u1, u2, u3, u4, u5, u6] [] μ :=
  l_goto (show gPG 71 36 = some (.goto 60) by decide +kernel) (t := 96) (by decide +kernel)
theorem b71_60 (d : Nat) (μ : jM) (u0 : Value) (u1 : Value) (u2 : Value) (u3 : Value) (u4 : Value) (u5 : Value) (u6 : Value) (s0 : Value) (s1 : Int32) (s2 : Int32) (s3 : Int32) (hs0 : jisref s0 = true) : jR (d + 1) 71 60 [u0, u1, u2, u3, u4, u5, u6] [.int s3, .int s2, .int s1, s0] μ = (if jrecv μ 6 s0 = true then (jC d 94 [s0, .int s1, .int s2, .int s3] μ).bind fun p1 => jR (d + 1) 71 63 [u0, u1, u2, u3, u4, u5, u6] (p1.1.toList ++ []) p1.2 else none) :=
  l_callV (u := 1) (v := s0) (as := [.int s1, .int s2, .int s3]) (show gPG 71 60 = some (jinvI 1 70) by decide +kernel) (by decide) (cc := 94) (na := 4) (kd := 6) (q4 := 0) (z := 11) (rest := []) (by decide +kernel) (by decide +kernel)  rfl (show (4 : Nat) ≤ 4 by decide) rfl cs0 (by decide +kernel) (cai (cai (cai (cav hs0 ca0))))
theorem b71_63 (d : Nat) (μ : jM) (u0 : Value) (u1 : Value) (u2 : Value) (u3 : Value) (u4 : Value) (u5 : Value) (u6 : Value) : jR d 71 63 [u0, u1, u2, u3, u4, u5, u6] [] μ = jR d 71 96 [u0, u1, u2, u3, u4, u5, u6] [] μ :=
  l_goto (show gPG 71 63 = some (.goto 33) by decide +kernel) (t := 96) (by decide +kernel)
theorem b71_81 (d : Nat) (μ : jM) (u0 : Value) (u1 : Value) (u2 : Value) (u3 : Value) (u4 : Value) (u5 : Value) (u6 : Value) : jR d 71 81 [u0, u1, u2, u3, u4, u5, u6] [] μ = jR d 71 96 [u0, u1, u2, u3, u4, u5, u6] [] μ :=
  l_goto (show gPG 71 81 = some (.goto 15) by decide +kernel) (t := 96) (by decide +kernel)
theorem b71_96 (d : Nat) (μ : jM) (u0 : Value) (u1 : Value) (u2 : Value) (u3 : Value) (u4 : Value) (u5 : Value) (u6 : Value) : jR d 71 96 [u0, u1, u2, u3, u4, u5, u6] [] μ = some (none, μ) :=
  l_ret (show gPG 71 96 = some (.return_) by decide +kernel) (by decide +kernel)
-- Board.undoLatest
theorem b72_0 (d : Nat) (μ : jM) (a : Nat) : jR d 72 0 [.ref a, .retAddr 0] [] μ = (jgI μ 3 7 (.ref a)).bind fun x1 => (if x1 < 1 then some (some (.int 0), μ) else (jgI μ 3 7 (.ref a)).bind fun x2 => (jpI μ 3 7 0 (.ref a) (x2 - 1)).bind fun m3 => (jgI m3 3 6 (.ref a)).bind fun x4 => (jpI m3 3 6 0 (.ref a) (((x4 + 6) - 1) - ((x4 + 6) - 1) / 6 * 6)).bind fun m5 => jR d 72 38 [.ref a, .int 0] [] m5) :=
  (l_aload_n (show gPG 72 0 = some (.aload_n 0) by decide +kernel) rfl jr_ref).trans <|
  (l_gI (show gPG 72 1 = some (.getfield 50) by decide +kernel) (kd := 3) (sl := 7) (tc := 0) (fin := 0) (z := 0) (by decide +kernel) (by decide +kernel) (by decide +kernel)).trans <| bd_cg fun x1 hx1 =>
  (l_iconst (show gPG 72 4 = some (.iconst 1) by decide +kernel) (c := 1) (by decide +kernel)).trans <|
  (l_cmp (show gPG 72 5 = some (.if_icmp .ge 5) by decide +kernel) (t := 10) (by decide +kernel)).trans <| jm_ge.trans <| ite_cg (
  (l_iconst (show gPG 72 8 = some (.iconst 0) by decide +kernel) (c := 0) (by decide +kernel)).trans <|
  l_iretK (show gPG 72 9 = some (.ireturn) by decide +kernel) (by decide +kernel)) (
  (l_aload_n (show gPG 72 10 = some (.aload_n 0) by decide +kernel) rfl jr_ref).trans <|
  (l_dup (show gPG 72 11 = some (.dup) by decide +kernel) (jr_cat1 jr_ref)).trans <|
  (l_gI (show gPG 72 12 = some (.getfield 50) by decide +kernel) (kd := 3) (sl := 7) (tc := 0) (fin := 0) (z := 0) (by decide +kernel) (by decide +kernel) (by decide +kernel)).trans <| bd_cg fun x2 hx2 =>
  (l_iconst (show gPG 72 15 = some (.iconst 1) by decide +kernel) (c := 1) (by decide +kernel)).trans <|
  (l_isub (show gPG 72 16 = some (.isub) by decide +kernel) ).trans <|
  (l_pI (show gPG 72 17 = some (.putfield 50) by decide +kernel) (kd := 3) (sl := 7) (tc := 0) (fin := 0) (z := 0) (by decide +kernel) (by decide +kernel) (by decide +kernel)).trans <| bd_cg fun m3 hm3 =>
  (l_aload_n (show gPG 72 20 = some (.aload_n 0) by decide +kernel) rfl jr_ref).trans <|
  (l_aload_n (show gPG 72 21 = some (.aload_n 0) by decide +kernel) rfl jr_ref).trans <|
  (l_gI (show gPG 72 22 = some (.getfield 38) by decide +kernel) (kd := 3) (sl := 6) (tc := 0) (fin := 0) (z := 0) (by decide +kernel) (by decide +kernel) (by decide +kernel)).trans <| bd_cg fun x4 hx4 =>
  (l_bipush (show gPG 72 25 = some (.bipush 6) by decide +kernel) (c := 6) (by decide +kernel)).trans <|
  (l_iadd (show gPG 72 27 = some (.iadd) by decide +kernel) ).trans <|
  (l_iconst (show gPG 72 28 = some (.iconst 1) by decide +kernel) (c := 1) (by decide +kernel)).trans <|
  (l_isub (show gPG 72 29 = some (.isub) by decide +kernel) ).trans <|
  (l_bipush (show gPG 72 30 = some (.bipush 6) by decide +kernel) (c := 6) (by decide +kernel)).trans <|
  (l_iremK (show gPG 72 32 = some (.irem) by decide +kernel) (by decide +kernel)).trans <|
  (l_pI (show gPG 72 33 = some (.putfield 38) by decide +kernel) (kd := 3) (sl := 6) (tc := 0) (fin := 0) (z := 0) (by decide +kernel) (by decide +kernel) (by decide +kernel)).trans <| bd_cg fun m5 hm5 =>
  (l_iconst (show gPG 72 36 = some (.iconst 0) by decide +kernel) (c := 0) (by decide +kernel)).trans <|
  l_istore_n (show gPG 72 37 = some (.istore_n 1) by decide +kernel) (ls := [.ref a, .retAddr 0]) (show (1 : Nat) < 2 by decide) (show _ = ([.ref a, .int 0] : List Value) from rfl))
theorem b72_38 (d : Nat) (μ : jM) (a : Nat) (i1 : Int32) : jR (d + 1) 72 38 [.ref a, .int i1] [] μ = (if i1 < 3 then (if jrecv μ 3 (.ref a) = true then (jC d 69 [.ref a, .int i1] μ).bind fun p1 => jR (d + 1) 72 48 [.ref a, .int i1] (p1.1.toList ++ []) p1.2 else none) else some (some (.int 1), μ)) :=
  (l_iload_n (show gPG 72 38 = some (.iload_n 1) by decide +kernel) rfl).trans <|
  (l_iconst (show gPG 72 39 = some (.iconst 3) by decide +kernel) (c := 3) (by decide +kernel)).trans <|
  (l_cmp (show gPG 72 40 = some (.if_icmp .ge 30) by decide +kernel) (t := 70) (by decide +kernel)).trans <| jm_ge.trans <| ite_cg (
  (l_aload_n (show gPG 72 43 = some (.aload_n 0) by decide +kernel) rfl jr_ref).trans <|
  (l_iload_n (show gPG 72 44 = some (.iload_n 1) by decide +kernel) rfl).trans <|
  l_callV (u := 1) (v := .ref a) (as := [.int i1]) (show gPG 72 45 = some (jinvI 1 42) by decide +kernel) (by decide) (cc := 69) (na := 2) (kd := 3) (q4 := 0) (z := 10) (rest := []) (by decide +kernel) (by decide +kernel)  rfl (show (2 : Nat) ≤ 2 by decide) rfl cs0 (by decide +kernel) (cai (cav jr_ref ca0))) (
  (l_iconst (show gPG 72 70 = some (.iconst 1) by decide +kernel) (c := 1) (by decide +kernel)).trans <|
  l_iretK (show gPG 72 71 = some (.ireturn) by decide +kernel) (by decide +kernel))
theorem b72_48 (d : Nat) (μ : jM) (a : Nat) (i1 : Int32) (s0 : Value) (hs0 : jisref s0 = true) : jR (d + 1) 72 48 [.ref a, .int i1] [s0] μ = (jgR μ 3 5 (.ref a)).bind fun w1 => (jgI μ 3 6 (.ref a)).bind fun x2 => (jaR μ w1 ((x2 * 3) + i1)).bind fun w3 => (if jrecv μ 6 s0 = true then (jC d 90 [s0, w3] μ).bind fun p4 => jR (d + 1) 72 64 [.ref a, .int i1] (p4.1.toList ++ []) p4.2 else none) :=
  (l_aload_n (show gPG 72 48 = some (.aload_n 0) by decide +kernel) rfl jr_ref).trans <|
  (l_gR (show gPG 72 49 = some (.getfield 34) by decide +kernel) (kd := 3) (sl := 5) (tc := 1) (fin := 1) (z := 0) (by decide +kernel) (by decide +kernel) (by decide +kernel)).trans <| bd_cg fun w1 hw1 =>
  (l_aload_n (show gPG 72 52 = some (.aload_n 0) by decide +kernel) rfl jr_ref).trans <|
  (l_gI (show gPG 72 53 = some (.getfield 38) by decide +kernel) (kd := 3) (sl := 6) (tc := 0) (fin := 0) (z := 0) (by decide +kernel) (by decide +kernel) (by decide +kernel)).trans <| bd_cg fun x2 hx2 =>
  (l_iconst (show gPG 72 56 = some (.iconst 3) by decide +kernel) (c := 3) (by decide +kernel)).trans <|
  (l_imul (show gPG 72 57 = some (.imul) by decide +kernel) ).trans <|
  (l_iload_n (show gPG 72 58 = some (.iload_n 1) by decide +kernel) rfl).trans <|
  (l_iadd (show gPG 72 59 = some (.iadd) by decide +kernel) ).trans <|
  (l_aald (show gPG 72 60 = some (.aaload) by decide +kernel) ).trans <| bd_cg fun w3 hw3 =>
  l_callV (u := 1) (v := s0) (as := [w3]) (show gPG 72 61 = some (jinvI 1 46) by decide +kernel) (by decide) (cc := 90) (na := 2) (kd := 6) (q4 := 0) (z := 11) (rest := []) (by decide +kernel) (by decide +kernel)  rfl (show (2 : Nat) ≤ 2 by decide) rfl cs0 (by decide +kernel) (cav (jr_aR hw3) (cav hs0 ca0))
theorem b72_64 (d : Nat) (μ : jM) (a : Nat) (i1 : Int32) : jR d 72 64 [.ref a, .int i1] [] μ = jR d 72 38 [.ref a, .int (i1 + 1)] [] μ :=
  (l_iinc (show gPG 72 64 = some (.iinc 1 1) by decide +kernel) (c := 1) (by decide +kernel) rfl (show _ = ([.ref a, .int (i1 + 1)] : List Value) from rfl)).trans <|
  l_goto (show gPG 72 67 = some (.goto (-29)) by decide +kernel) (t := 38) (by decide +kernel)
-- Board.become
theorem b73_0 (d : Nat) (μ : jM) (a : Nat) (r1 : Value) (h1 : jisref r1 = true) : jR d 73 0 [.ref a, r1, .retAddr 0] [] μ = jR d 73 2 [.ref a, r1, .int 0] [] μ :=
  (l_iconst (show gPG 73 0 = some (.iconst 0) by decide +kernel) (c := 0) (by decide +kernel)).trans <|
  l_istore_n (show gPG 73 1 = some (.istore_n 2) by decide +kernel) (ls := [.ref a, r1, .retAddr 0]) (show (2 : Nat) < 3 by decide) (show _ = ([.ref a, r1, .int 0] : List Value) from rfl)
theorem b73_2 (d : Nat) (μ : jM) (a : Nat) (r1 : Value) (i2 : Int32) (h1 : jisref r1 = true) : jR (d + 1) 73 2 [.ref a, r1, .int i2] [] μ = (if i2 < 4 then (if jrecv μ 3 (.ref a) = true then (jC d 69 [.ref a, .int i2] μ).bind fun p4 => jR (d + 1) 73 12 [.ref a, r1, .int i2] (p4.1.toList ++ []) p4.2 else none) else (jgR μ 3 4 (.ref a)).bind fun w1 => (jgR μ 3 4 r1).bind fun w2 => (if jrecv μ 8 w1 = true then (jC d 123 [w1, w2] μ).bind fun p3 => jR (d + 1) 73 37 [.ref a, r1, .int i2] (p3.1.toList ++ []) p3.2 else none)) :=
  (l_iload_n (show gPG 73 2 = some (.iload_n 2) by decide +kernel) rfl).trans <|
  (l_iconst (show gPG 73 3 = some (.iconst 4) by decide +kernel) (c := 4) (by decide +kernel)).trans <|
  (l_cmp (show gPG 73 4 = some (.if_icmp .ge 22) by decide +kernel) (t := 26) (by decide +kernel)).trans <| jm_ge.trans <| ite_cg (
  (l_aload_n (show gPG 73 7 = some (.aload_n 0) by decide +kernel) rfl jr_ref).trans <|
  (l_iload_n (show gPG 73 8 = some (.iload_n 2) by decide +kernel) rfl).trans <|
  l_callV (u := 1) (v := .ref a) (as := [.int i2]) (show gPG 73 9 = some (jinvI 1 42) by decide +kernel) (by decide) (cc := 69) (na := 2) (kd := 3) (q4 := 0) (z := 10) (rest := []) (by decide +kernel) (by decide +kernel)  rfl (show (2 : Nat) ≤ 2 by decide) rfl cs0 (by decide +kernel) (cai (cav jr_ref ca0))) (
  (l_aload_n (show gPG 73 26 = some (.aload_n 0) by decide +kernel) rfl jr_ref).trans <|
  (l_gR (show gPG 73 27 = some (.getfield 30) by decide +kernel) (kd := 3) (sl := 4) (tc := 1) (fin := 1) (z := 0) (by decide +kernel) (by decide +kernel) (by decide +kernel)).trans <| bd_cg fun w1 hw1 =>
  (l_aload_n (show gPG 73 30 = some (.aload_n 1) by decide +kernel) rfl h1).trans <|
  (l_gR (show gPG 73 31 = some (.getfield 30) by decide +kernel) (kd := 3) (sl := 4) (tc := 1) (fin := 1) (z := 0) (by decide +kernel) (by decide +kernel) (by decide +kernel)).trans <| bd_cg fun w2 hw2 =>
  l_callV (u := 1) (v := w1) (as := [w2]) (show gPG 73 34 = some (jinvI 1 82) by decide +kernel) (by decide) (cc := 123) (na := 2) (kd := 8) (q4 := 0) (z := 11) (rest := []) (by decide +kernel) (by decide +kernel)  rfl (show (2 : Nat) ≤ 2 by decide) rfl cs0 (by decide +kernel) (cav (jr_gR hw2) (cav (jr_gR hw1) ca0)))
theorem b73_12 (d : Nat) (μ : jM) (a : Nat) (r1 : Value) (i2 : Int32) (s0 : Value) (h1 : jisref r1 = true) (hs0 : jisref s0 = true) : jR (d + 1) 73 12 [.ref a, r1, .int i2] [s0] μ = (if jrecv μ 3 r1 = true then (jC d 69 [r1, .int i2] μ).bind fun p1 => jR (d + 1) 73 17 [.ref a, r1, .int i2] (p1.1.toList ++ [s0]) p1.2 else none) :=
  (l_aload_n (show gPG 73 12 = some (.aload_n 1) by decide +kernel) rfl h1).trans <|
  (l_iload_n (show gPG 73 13 = some (.iload_n 2) by decide +kernel) rfl).trans <|
  l_callV (u := 1) (v := r1) (as := [.int i2]) (show gPG 73 14 = some (jinvI 1 42) by decide +kernel) (by decide) (cc := 69) (na := 2) (kd := 3) (q4 := 0) (z := 10) (rest := [s0]) (by decide +kernel) (by decide +kernel)  rfl (show (2 : Nat) ≤ 3 by decide) rfl (csv hs0 cs0) (by decide +kernel) (cai (cav h1 ca0))
theorem b73_17 (d : Nat) (μ : jM) (a : Nat) (r1 : Value) (i2 : Int32) (s0 : Value) (s1 : Value) (h1 : jisref r1 = true) (hs0 : jisref s0 = true) (hs1 : jisref s1 = true) : jR (d + 1) 73 17 [.ref a, r1, .int i2] [s1, s0] μ = (if jrecv μ 6 s0 = true then (jC d 90 [s0, s1] μ).bind fun p1 => jR (d + 1) 73 20 [.ref a, r1, .int i2] (p1.1.toList ++ []) p1.2 else none) :=
  l_callV (u := 1) (v := s0) (as := [s1]) (show gPG 73 17 = some (jinvI 1 46) by decide +kernel) (by decide) (cc := 90) (na := 2) (kd := 6) (q4 := 0) (z := 11) (rest := []) (by decide +kernel) (by decide +kernel)  rfl (show (2 : Nat) ≤ 2 by decide) rfl cs0 (by decide +kernel) (cav hs1 (cav hs0 ca0))
theorem b73_20 (d : Nat) (μ : jM) (a : Nat) (r1 : Value) (i2 : Int32) (h1 : jisref r1 = true) : jR d 73 20 [.ref a, r1, .int i2] [] μ = jR d 73 2 [.ref a, r1, .int (i2 + 1)] [] μ :=
  (l_iinc (show gPG 73 20 = some (.iinc 2 1) by decide +kernel) (c := 1) (by decide +kernel) rfl (show _ = ([.ref a, r1, .int (i2 + 1)] : List Value) from rfl)).trans <|
  l_goto (show gPG 73 23 = some (.goto (-21)) by decide +kernel) (t := 2) (by decide +kernel)
theorem b73_37 (d : Nat) (μ : jM) (a : Nat) (r1 : Value) (u2 : Value) (h1 : jisref r1 = true) : jR d 73 37 [.ref a, r1, u2] [] μ = jR d 73 39 [.ref a, r1, .int 0] [] μ :=
  (l_iconst (show gPG 73 37 = some (.iconst 0) by decide +kernel) (c := 0) (by decide +kernel)).trans <|
  l_istore_n (show gPG 73 38 = some (.istore_n 2) by decide +kernel) (ls := [.ref a, r1, u2]) (show (2 : Nat) < 3 by decide) (show _ = ([.ref a, r1, .int 0] : List Value) from rfl)
theorem b73_39 (d : Nat) (μ : jM) (a : Nat) (r1 : Value) (i2 : Int32) (h1 : jisref r1 = true) : jR (d + 1) 73 39 [.ref a, r1, .int i2] [] μ = (jgR μ 3 5 (.ref a)).bind fun w1 => (jal μ w1).bind fun x2 => (if i2 < x2 then (jgR μ 3 5 (.ref a)).bind fun w7 => (jaR μ w7 i2).bind fun w8 => (jgR μ 3 5 r1).bind fun w9 => (jaR μ w9 i2).bind fun w10 => (if jrecv μ 6 w8 = true then (jC d 90 [w8, w10] μ).bind fun p11 => jR (d + 1) 73 63 [.ref a, r1, .int i2] (p11.1.toList ++ []) p11.2 else none) else (jgI μ 3 6 r1).bind fun x3 => (jpI μ 3 6 0 (.ref a) x3).bind fun m4 => (jgI m4 3 7 r1).bind fun x5 => (jpI m4 3 7 0 (.ref a) x5).bind fun m6 => some (none, m6)) :=
  (l_iload_n (show gPG 73 39 = some (.iload_n 2) by decide +kernel) rfl).trans <|
  (l_aload_n (show gPG 73 40 = some (.aload_n 0) by decide +kernel) rfl jr_ref).trans <|
  (l_gR (show gPG 73 41 = some (.getfield 34) by decide +kernel) (kd := 3) (sl := 5) (tc := 1) (fin := 1) (z := 0) (by decide +kernel) (by decide +kernel) (by decide +kernel)).trans <| bd_cg fun w1 hw1 =>
  (l_alen (show gPG 73 44 = some (.arraylength) by decide +kernel) ).trans <| bd_cg fun x2 hx2 =>
  (l_cmp (show gPG 73 45 = some (.if_icmp .ge 24) by decide +kernel) (t := 69) (by decide +kernel)).trans <| jm_ge.trans <| ite_cg (
  (l_aload_n (show gPG 73 48 = some (.aload_n 0) by decide +kernel) rfl jr_ref).trans <|
  (l_gR (show gPG 73 49 = some (.getfield 34) by decide +kernel) (kd := 3) (sl := 5) (tc := 1) (fin := 1) (z := 0) (by decide +kernel) (by decide +kernel) (by decide +kernel)).trans <| bd_cg fun w7 hw7 =>
  (l_iload_n (show gPG 73 52 = some (.iload_n 2) by decide +kernel) rfl).trans <|
  (l_aald (show gPG 73 53 = some (.aaload) by decide +kernel) ).trans <| bd_cg fun w8 hw8 =>
  (l_aload_n (show gPG 73 54 = some (.aload_n 1) by decide +kernel) rfl h1).trans <|
  (l_gR (show gPG 73 55 = some (.getfield 34) by decide +kernel) (kd := 3) (sl := 5) (tc := 1) (fin := 1) (z := 0) (by decide +kernel) (by decide +kernel) (by decide +kernel)).trans <| bd_cg fun w9 hw9 =>
  (l_iload_n (show gPG 73 58 = some (.iload_n 2) by decide +kernel) rfl).trans <|
  (l_aald (show gPG 73 59 = some (.aaload) by decide +kernel) ).trans <| bd_cg fun w10 hw10 =>
  l_callV (u := 1) (v := w8) (as := [w10]) (show gPG 73 60 = some (jinvI 1 46) by decide +kernel) (by decide) (cc := 90) (na := 2) (kd := 6) (q4 := 0) (z := 11) (rest := []) (by decide +kernel) (by decide +kernel)  rfl (show (2 : Nat) ≤ 2 by decide) rfl cs0 (by decide +kernel) (cav (jr_aR hw10) (cav (jr_aR hw8) ca0))) (
  (l_aload_n (show gPG 73 69 = some (.aload_n 0) by decide +kernel) rfl jr_ref).trans <|
  (l_aload_n (show gPG 73 70 = some (.aload_n 1) by decide +kernel) rfl h1).trans <|
  (l_gI (show gPG 73 71 = some (.getfield 38) by decide +kernel) (kd := 3) (sl := 6) (tc := 0) (fin := 0) (z := 0) (by decide +kernel) (by decide +kernel) (by decide +kernel)).trans <| bd_cg fun x3 hx3 =>
  (l_pI (show gPG 73 74 = some (.putfield 38) by decide +kernel) (kd := 3) (sl := 6) (tc := 0) (fin := 0) (z := 0) (by decide +kernel) (by decide +kernel) (by decide +kernel)).trans <| bd_cg fun m4 hm4 =>
  (l_aload_n (show gPG 73 77 = some (.aload_n 0) by decide +kernel) rfl jr_ref).trans <|
  (l_aload_n (show gPG 73 78 = some (.aload_n 1) by decide +kernel) rfl h1).trans <|
  (l_gI (show gPG 73 79 = some (.getfield 50) by decide +kernel) (kd := 3) (sl := 7) (tc := 0) (fin := 0) (z := 0) (by decide +kernel) (by decide +kernel) (by decide +kernel)).trans <| bd_cg fun x5 hx5 =>
  (l_pI (show gPG 73 82 = some (.putfield 50) by decide +kernel) (kd := 3) (sl := 7) (tc := 0) (fin := 0) (z := 0) (by decide +kernel) (by decide +kernel) (by decide +kernel)).trans <| bd_cg fun m6 hm6 =>
  l_ret (show gPG 73 85 = some (.return_) by decide +kernel) (by decide +kernel))
theorem b73_63 (d : Nat) (μ : jM) (a : Nat) (r1 : Value) (i2 : Int32) (h1 : jisref r1 = true) : jR d 73 63 [.ref a, r1, .int i2] [] μ = jR d 73 39 [.ref a, r1, .int (i2 + 1)] [] μ :=
  (l_iinc (show gPG 73 63 = some (.iinc 2 1) by decide +kernel) (c := 1) (by decide +kernel) rfl (show _ = ([.ref a, r1, .int (i2 + 1)] : List Value) from rfl)).trans <|
  l_goto (show gPG 73 66 = some (.goto (-27)) by decide +kernel) (t := 39) (by decide +kernel)
-- Clashes.init
theorem b74_0 (d : Nat) (μ : jM) (a : Nat) : jR (d + 1) 74 0 [.ref a] [] μ = (jpR ((jnew μ 20 48 48)) 4 1 (.ref a) ((.ref (jsz μ)))).bind fun m1 => (jpR ((jnew m1 20 48 48)) 4 2 (.ref a) ((.ref (jsz m1)))).bind fun m2 => (jpR ((jnew m2 20 48 48)) 4 3 (.ref a) ((.ref (jsz m2)))).bind fun m3 => (jpR ((jnew m3 20 48 48)) 4 4 (.ref a) ((.ref (jsz m3)))).bind fun m4 => some (none, m4) :=
  (l_aload_n (show gPG 74 0 = some (.aload_n 0) by decide +kernel) rfl jr_ref).trans <|
  (l_obj (u := 3) (show gPG 74 1 = some (jinvI 3 3) by decide +kernel) (by decide) (q2 := 99) (q3 := 0) (z := 18) (by decide +kernel) (by decide +kernel) cs0 (by decide +kernel)).trans <|
  (l_aload_n (show gPG 74 4 = some (.aload_n 0) by decide +kernel) rfl jr_ref).trans <|
  (l_bipush (show gPG 74 5 = some (.bipush 48) by decide +kernel) (c := 48) (by decide +kernel)).trans <|
  (l_newaK (show gPG 74 7 = some (.newarray .int) by decide +kernel) (kd := 20) (N := 48) rfl (by decide +kernel)).trans <|
  (l_pR (show gPG 74 9 = some (.putfield 9) by decide +kernel) (kd := 4) (sl := 1) (tc := 1) (fin := 1) (z := 0) (by decide +kernel) (by decide +kernel) (by decide +kernel) jr_ref).trans <| bd_cg fun m1 hm1 =>
  (l_aload_n (show gPG 74 12 = some (.aload_n 0) by decide +kernel) rfl jr_ref).trans <|
  (l_bipush (show gPG 74 13 = some (.bipush 48) by decide +kernel) (c := 48) (by decide +kernel)).trans <|
  (l_newaK (show gPG 74 15 = some (.newarray .int) by decide +kernel) (kd := 20) (N := 48) rfl (by decide +kernel)).trans <|
  (l_pR (show gPG 74 17 = some (.putfield 15) by decide +kernel) (kd := 4) (sl := 2) (tc := 1) (fin := 1) (z := 0) (by decide +kernel) (by decide +kernel) (by decide +kernel) jr_ref).trans <| bd_cg fun m2 hm2 =>
  (l_aload_n (show gPG 74 20 = some (.aload_n 0) by decide +kernel) rfl jr_ref).trans <|
  (l_bipush (show gPG 74 21 = some (.bipush 48) by decide +kernel) (c := 48) (by decide +kernel)).trans <|
  (l_newaK (show gPG 74 23 = some (.newarray .int) by decide +kernel) (kd := 20) (N := 48) rfl (by decide +kernel)).trans <|
  (l_pR (show gPG 74 25 = some (.putfield 18) by decide +kernel) (kd := 4) (sl := 3) (tc := 1) (fin := 1) (z := 0) (by decide +kernel) (by decide +kernel) (by decide +kernel) jr_ref).trans <| bd_cg fun m3 hm3 =>
  (l_aload_n (show gPG 74 28 = some (.aload_n 0) by decide +kernel) rfl jr_ref).trans <|
  (l_bipush (show gPG 74 29 = some (.bipush 48) by decide +kernel) (c := 48) (by decide +kernel)).trans <|
  (l_newaK (show gPG 74 31 = some (.newarray .int) by decide +kernel) (kd := 20) (N := 48) rfl (by decide +kernel)).trans <|
  (l_pR (show gPG 74 33 = some (.putfield 21) by decide +kernel) (kd := 4) (sl := 4) (tc := 1) (fin := 1) (z := 0) (by decide +kernel) (by decide +kernel) (by decide +kernel) jr_ref).trans <| bd_cg fun m4 hm4 =>
  l_ret (show gPG 74 36 = some (.return_) by decide +kernel) (by decide +kernel)
-- Clashes.clear
theorem b75_0 (d : Nat) (μ : jM) (a : Nat) : jR d 75 0 [.ref a] [] μ = (jpI μ 4 0 0 (.ref a) 0).bind fun m1 => some (none, m1) :=
  (l_aload_n (show gPG 75 0 = some (.aload_n 0) by decide +kernel) rfl jr_ref).trans <|
  (l_iconst (show gPG 75 1 = some (.iconst 0) by decide +kernel) (c := 0) (by decide +kernel)).trans <|
  (l_pI (show gPG 75 2 = some (.putfield 24) by decide +kernel) (kd := 4) (sl := 0) (tc := 0) (fin := 0) (z := 0) (by decide +kernel) (by decide +kernel) (by decide +kernel)).trans <| bd_cg fun m1 hm1 =>
  l_ret (show gPG 75 5 = some (.return_) by decide +kernel) (by decide +kernel)
-- Clashes.add
theorem b76_0 (d : Nat) (μ : jM) (a : Nat) (i1 : Int32) (i2 : Int32) (i3 : Int32) : jR d 76 0 [.ref a, .int i1, .int i2, .int i3] [] μ = (jgI μ 4 0 (.ref a)).bind fun x1 => (if x1 < 48 then (jgR μ 4 1 (.ref a)).bind fun w2 => (jgI μ 4 0 (.ref a)).bind fun x3 => (jsI μ w2 x3 i1).bind fun m4 => (jgR m4 4 2 (.ref a)).bind fun w5 => (jgI m4 4 0 (.ref a)).bind fun x6 => (jsI m4 w5 x6 i2).bind fun m7 => (jgR m7 4 3 (.ref a)).bind fun w8 => (jgI m7 4 0 (.ref a)).bind fun x9 => (jsI m7 w8 x9 i3).bind fun m10 => (jgR m10 4 4 (.ref a)).bind fun w11 => (jgI m10 4 0 (.ref a)).bind fun x12 => (jsI m10 w11 x12 0).bind fun m13 => (jgI m13 4 0 (.ref a)).bind fun x14 => (jpI m13 4 0 0 (.ref a) (x14 + 1)).bind fun m15 => jR d 76 59 [.ref a, .int i1, .int i2, .int i3] [] m15 else jR d 76 59 [.ref a, .int i1, .int i2, .int i3] [] μ) :=
  (l_aload_n (show gPG 76 0 = some (.aload_n 0) by decide +kernel) rfl jr_ref).trans <|
  (l_gI (show gPG 76 1 = some (.getfield 24) by decide +kernel) (kd := 4) (sl := 0) (tc := 0) (fin := 0) (z := 0) (by decide +kernel) (by decide +kernel) (by decide +kernel)).trans <| bd_cg fun x1 hx1 =>
  (l_bipush (show gPG 76 4 = some (.bipush 48) by decide +kernel) (c := 48) (by decide +kernel)).trans <|
  (l_cmp (show gPG 76 6 = some (.if_icmp .ge 53) by decide +kernel) (t := 59) (by decide +kernel)).trans <| jm_ge.trans <| ite_cg (
  (l_aload_n (show gPG 76 9 = some (.aload_n 0) by decide +kernel) rfl jr_ref).trans <|
  (l_gR (show gPG 76 10 = some (.getfield 9) by decide +kernel) (kd := 4) (sl := 1) (tc := 1) (fin := 1) (z := 0) (by decide +kernel) (by decide +kernel) (by decide +kernel)).trans <| bd_cg fun w2 hw2 =>
  (l_aload_n (show gPG 76 13 = some (.aload_n 0) by decide +kernel) rfl jr_ref).trans <|
  (l_gI (show gPG 76 14 = some (.getfield 24) by decide +kernel) (kd := 4) (sl := 0) (tc := 0) (fin := 0) (z := 0) (by decide +kernel) (by decide +kernel) (by decide +kernel)).trans <| bd_cg fun x3 hx3 =>
  (l_iload_n (show gPG 76 17 = some (.iload_n 1) by decide +kernel) rfl).trans <|
  (l_iast (show gPG 76 18 = some (.iastore) by decide +kernel) ).trans <| bd_cg fun m4 hm4 =>
  (l_aload_n (show gPG 76 19 = some (.aload_n 0) by decide +kernel) rfl jr_ref).trans <|
  (l_gR (show gPG 76 20 = some (.getfield 15) by decide +kernel) (kd := 4) (sl := 2) (tc := 1) (fin := 1) (z := 0) (by decide +kernel) (by decide +kernel) (by decide +kernel)).trans <| bd_cg fun w5 hw5 =>
  (l_aload_n (show gPG 76 23 = some (.aload_n 0) by decide +kernel) rfl jr_ref).trans <|
  (l_gI (show gPG 76 24 = some (.getfield 24) by decide +kernel) (kd := 4) (sl := 0) (tc := 0) (fin := 0) (z := 0) (by decide +kernel) (by decide +kernel) (by decide +kernel)).trans <| bd_cg fun x6 hx6 =>
  (l_iload_n (show gPG 76 27 = some (.iload_n 2) by decide +kernel) rfl).trans <|
  (l_iast (show gPG 76 28 = some (.iastore) by decide +kernel) ).trans <| bd_cg fun m7 hm7 =>
  (l_aload_n (show gPG 76 29 = some (.aload_n 0) by decide +kernel) rfl jr_ref).trans <|
  (l_gR (show gPG 76 30 = some (.getfield 18) by decide +kernel) (kd := 4) (sl := 3) (tc := 1) (fin := 1) (z := 0) (by decide +kernel) (by decide +kernel) (by decide +kernel)).trans <| bd_cg fun w8 hw8 =>
  (l_aload_n (show gPG 76 33 = some (.aload_n 0) by decide +kernel) rfl jr_ref).trans <|
  (l_gI (show gPG 76 34 = some (.getfield 24) by decide +kernel) (kd := 4) (sl := 0) (tc := 0) (fin := 0) (z := 0) (by decide +kernel) (by decide +kernel) (by decide +kernel)).trans <| bd_cg fun x9 hx9 =>
  (l_iload_n (show gPG 76 37 = some (.iload_n 3) by decide +kernel) rfl).trans <|
  (l_iast (show gPG 76 38 = some (.iastore) by decide +kernel) ).trans <| bd_cg fun m10 hm10 =>
  (l_aload_n (show gPG 76 39 = some (.aload_n 0) by decide +kernel) rfl jr_ref).trans <|
  (l_gR (show gPG 76 40 = some (.getfield 21) by decide +kernel) (kd := 4) (sl := 4) (tc := 1) (fin := 1) (z := 0) (by decide +kernel) (by decide +kernel) (by decide +kernel)).trans <| bd_cg fun w11 hw11 =>
  (l_aload_n (show gPG 76 43 = some (.aload_n 0) by decide +kernel) rfl jr_ref).trans <|
  (l_gI (show gPG 76 44 = some (.getfield 24) by decide +kernel) (kd := 4) (sl := 0) (tc := 0) (fin := 0) (z := 0) (by decide +kernel) (by decide +kernel) (by decide +kernel)).trans <| bd_cg fun x12 hx12 =>
  (l_iconst (show gPG 76 47 = some (.iconst 0) by decide +kernel) (c := 0) (by decide +kernel)).trans <|
  (l_iast (show gPG 76 48 = some (.iastore) by decide +kernel) ).trans <| bd_cg fun m13 hm13 =>
  (l_aload_n (show gPG 76 49 = some (.aload_n 0) by decide +kernel) rfl jr_ref).trans <|
  (l_dup (show gPG 76 50 = some (.dup) by decide +kernel) (jr_cat1 jr_ref)).trans <|
  (l_gI (show gPG 76 51 = some (.getfield 24) by decide +kernel) (kd := 4) (sl := 0) (tc := 0) (fin := 0) (z := 0) (by decide +kernel) (by decide +kernel) (by decide +kernel)).trans <| bd_cg fun x14 hx14 =>
  (l_iconst (show gPG 76 54 = some (.iconst 1) by decide +kernel) (c := 1) (by decide +kernel)).trans <|
  (l_iadd (show gPG 76 55 = some (.iadd) by decide +kernel) ).trans <|
  (l_pI (show gPG 76 56 = some (.putfield 24) by decide +kernel) (kd := 4) (sl := 0) (tc := 0) (fin := 0) (z := 0) (by decide +kernel) (by decide +kernel) (by decide +kernel)).trans <| bd_cg fun m15 hm15 =>
  rfl) (
  rfl)
theorem b76_59 (d : Nat) (μ : jM) (u0 : Value) (u1 : Value) (u2 : Value) (u3 : Value) : jR d 76 59 [u0, u1, u2, u3] [] μ = some (none, μ) :=
  l_ret (show gPG 76 59 = some (.return_) by decide +kernel) (by decide +kernel)
-- Clashes.become
theorem b77_0 (d : Nat) (μ : jM) (a : Nat) (r1 : Value) (h1 : jisref r1 = true) : jR (d + 1) 77 0 [.ref a, r1, .retAddr 0] [] μ = (if jrecv μ 4 (.ref a) = true then (jC d 75 [.ref a] μ).bind fun p1 => jR (d + 1) 77 4 [.ref a, r1, .retAddr 0] (p1.1.toList ++ []) p1.2 else none) :=
  (l_aload_n (show gPG 77 0 = some (.aload_n 0) by decide +kernel) rfl jr_ref).trans <|
  l_callV (u := 1) (v := .ref a) (as := []) (show gPG 77 1 = some (jinvI 1 28) by decide +kernel) (by decide) (cc := 75) (na := 1) (kd := 4) (q4 := 0) (z := 10) (rest := []) (by decide +kernel) (by decide +kernel)  rfl (show (1 : Nat) ≤ 1 by decide) rfl cs0 (by decide +kernel) (cav jr_ref ca0)
theorem b77_4 (d : Nat) (μ : jM) (a : Nat) (r1 : Value) (u2 : Value) (h1 : jisref r1 = true) : jR d 77 4 [.ref a, r1, u2] [] μ = jR d 77 6 [.ref a, r1, .int 0] [] μ :=
  (l_iconst (show gPG 77 4 = some (.iconst 0) by decide +kernel) (c := 0) (by decide +kernel)).trans <|
  l_istore_n (show gPG 77 5 = some (.istore_n 2) by decide +kernel) (ls := [.ref a, r1, u2]) (show (2 : Nat) < 3 by decide) (show _ = ([.ref a, r1, .int 0] : List Value) from rfl)
theorem b77_6 (d : Nat) (μ : jM) (a : Nat) (r1 : Value) (i2 : Int32) (h1 : jisref r1 = true) : jR (d + 1) 77 6 [.ref a, r1, .int i2] [] μ = (jgI μ 4 0 r1).bind fun x1 => (if i2 < x1 then (jgR μ 4 1 r1).bind fun w2 => (jaI μ w2 i2).bind fun x3 => (jgR μ 4 2 r1).bind fun w4 => (jaI μ w4 i2).bind fun x5 => (jgR μ 4 3 r1).bind fun w6 => (jaI μ w6 i2).bind fun x7 => (if jrecv μ 4 (.ref a) = true then (jC d 76 [.ref a, .int x3, .int x5, .int x7] μ).bind fun p8 => jR (d + 1) 77 36 [.ref a, r1, .int i2] (p8.1.toList ++ []) p8.2 else none) else some (none, μ)) :=
  (l_iload_n (show gPG 77 6 = some (.iload_n 2) by decide +kernel) rfl).trans <|
  (l_aload_n (show gPG 77 7 = some (.aload_n 1) by decide +kernel) rfl h1).trans <|
  (l_gI (show gPG 77 8 = some (.getfield 24) by decide +kernel) (kd := 4) (sl := 0) (tc := 0) (fin := 0) (z := 0) (by decide +kernel) (by decide +kernel) (by decide +kernel)).trans <| bd_cg fun x1 hx1 =>
  (l_cmp (show gPG 77 11 = some (.if_icmp .ge 31) by decide +kernel) (t := 42) (by decide +kernel)).trans <| jm_ge.trans <| ite_cg (
  (l_aload_n (show gPG 77 14 = some (.aload_n 0) by decide +kernel) rfl jr_ref).trans <|
  (l_aload_n (show gPG 77 15 = some (.aload_n 1) by decide +kernel) rfl h1).trans <|
  (l_gR (show gPG 77 16 = some (.getfield 9) by decide +kernel) (kd := 4) (sl := 1) (tc := 1) (fin := 1) (z := 0) (by decide +kernel) (by decide +kernel) (by decide +kernel)).trans <| bd_cg fun w2 hw2 =>
  (l_iload_n (show gPG 77 19 = some (.iload_n 2) by decide +kernel) rfl).trans <|
  (l_iald (show gPG 77 20 = some (.iaload) by decide +kernel) ).trans <| bd_cg fun x3 hx3 =>
  (l_aload_n (show gPG 77 21 = some (.aload_n 1) by decide +kernel) rfl h1).trans <|
  (l_gR (show gPG 77 22 = some (.getfield 15) by decide +kernel) (kd := 4) (sl := 2) (tc := 1) (fin := 1) (z := 0) (by decide +kernel) (by decide +kernel) (by decide +kernel)).trans <| bd_cg fun w4 hw4 =>
  (l_iload_n (show gPG 77 25 = some (.iload_n 2) by decide +kernel) rfl).trans <|
  (l_iald (show gPG 77 26 = some (.iaload) by decide +kernel) ).trans <| bd_cg fun x5 hx5 =>
  (l_aload_n (show gPG 77 27 = some (.aload_n 1) by decide +kernel) rfl h1).trans <|
  (l_gR (show gPG 77 28 = some (.getfield 18) by decide +kernel) (kd := 4) (sl := 3) (tc := 1) (fin := 1) (z := 0) (by decide +kernel) (by decide +kernel) (by decide +kernel)).trans <| bd_cg fun w6 hw6 =>
  (l_iload_n (show gPG 77 31 = some (.iload_n 2) by decide +kernel) rfl).trans <|
  (l_iald (show gPG 77 32 = some (.iaload) by decide +kernel) ).trans <| bd_cg fun x7 hx7 =>
  l_callV (u := 1) (v := .ref a) (as := [.int x3, .int x5, .int x7]) (show gPG 77 33 = some (jinvI 1 31) by decide +kernel) (by decide) (cc := 76) (na := 4) (kd := 4) (q4 := 0) (z := 10) (rest := []) (by decide +kernel) (by decide +kernel)  rfl (show (4 : Nat) ≤ 4 by decide) rfl cs0 (by decide +kernel) (cai (cai (cai (cav jr_ref ca0))))) (
  l_ret (show gPG 77 42 = some (.return_) by decide +kernel) (by decide +kernel))
theorem b77_36 (d : Nat) (μ : jM) (a : Nat) (r1 : Value) (i2 : Int32) (h1 : jisref r1 = true) : jR d 77 36 [.ref a, r1, .int i2] [] μ = jR d 77 6 [.ref a, r1, .int (i2 + 1)] [] μ :=
  (l_iinc (show gPG 77 36 = some (.iinc 2 1) by decide +kernel) (c := 1) (by decide +kernel) rfl (show _ = ([.ref a, r1, .int (i2 + 1)] : List Value) from rfl)).trans <|
  l_goto (show gPG 77 39 = some (.goto (-33)) by decide +kernel) (t := 6) (by decide +kernel)
-- Clashes.has
theorem b78_0 (d : Nat) (μ : jM) (a : Nat) (i1 : Int32) : jR d 78 0 [.ref a, .int i1] [] μ = (if i1 < 0 then jR d 78 16 [.ref a, .int i1] [] μ else (jgI μ 4 0 (.ref a)).bind fun x1 => (if i1 < x1 then jR d 78 17 [.ref a, .int i1] [.int 1] μ else jR d 78 16 [.ref a, .int i1] [] μ)) :=
  (l_iload_n (show gPG 78 0 = some (.iload_n 1) by decide +kernel) rfl).trans <|
  (l_cmp0 (show gPG 78 1 = some (.ifCond .lt 15) by decide +kernel) (t := 16) (by decide +kernel)).trans <| jm_lt.trans <| ite_cg (
  rfl) (
  (l_iload_n (show gPG 78 4 = some (.iload_n 1) by decide +kernel) rfl).trans <|
  (l_aload_n (show gPG 78 5 = some (.aload_n 0) by decide +kernel) rfl jr_ref).trans <|
  (l_gI (show gPG 78 6 = some (.getfield 24) by decide +kernel) (kd := 4) (sl := 0) (tc := 0) (fin := 0) (z := 0) (by decide +kernel) (by decide +kernel) (by decide +kernel)).trans <| bd_cg fun x1 hx1 =>
  (l_cmp (show gPG 78 9 = some (.if_icmp .ge 7) by decide +kernel) (t := 16) (by decide +kernel)).trans <| jm_ge.trans <| ite_cg (
  (l_iconst (show gPG 78 12 = some (.iconst 1) by decide +kernel) (c := 1) (by decide +kernel)).trans <|
  l_goto (show gPG 78 13 = some (.goto 4) by decide +kernel) (t := 17) (by decide +kernel)) (
  rfl))
theorem b78_16 (d : Nat) (μ : jM) (u0 : Value) (u1 : Value) : jR d 78 16 [u0, u1] [] μ = jR d 78 17 [u0, u1] [.int 0] μ :=
  l_iconst (show gPG 78 16 = some (.iconst 0) by decide +kernel) (c := 0) (by decide +kernel)
theorem b78_17 (d : Nat) (μ : jM) (u0 : Value) (u1 : Value) (s0 : Int32) : jR d 78 17 [u0, u1] [.int s0] μ = (if jrf 4 s0 = true then some (some (.int s0), μ) else none) :=
  l_iret (show gPG 78 17 = some (.ireturn) by decide +kernel) (rc := 4) (by decide +kernel)
-- Clashes.unsettled
theorem b79_0 (d : Nat) (μ : jM) (a : Nat) : jR d 79 0 [.ref a, .retAddr 0, .retAddr 0] [] μ = jR d 79 4 [.ref a, .int 0, .int 0] [] μ :=
  (l_iconst (show gPG 79 0 = some (.iconst 0) by decide +kernel) (c := 0) (by decide +kernel)).trans <|
  (l_istore_n (show gPG 79 1 = some (.istore_n 1) by decide +kernel) (ls := [.ref a, .retAddr 0, .retAddr 0]) (show (1 : Nat) < 3 by decide) (show _ = ([.ref a, .int 0, .retAddr 0] : List Value) from rfl)).trans <|
  (l_iconst (show gPG 79 2 = some (.iconst 0) by decide +kernel) (c := 0) (by decide +kernel)).trans <|
  l_istore_n (show gPG 79 3 = some (.istore_n 2) by decide +kernel) (ls := [.ref a, .int 0, .retAddr 0]) (show (2 : Nat) < 3 by decide) (show _ = ([.ref a, .int 0, .int 0] : List Value) from rfl)
theorem b79_4 (d : Nat) (μ : jM) (a : Nat) (i1 : Int32) (i2 : Int32) : jR d 79 4 [.ref a, .int i1, .int i2] [] μ = (jgI μ 4 0 (.ref a)).bind fun x1 => (if i2 < x1 then (jgR μ 4 4 (.ref a)).bind fun w2 => (jaI μ w2 i2).bind fun x3 => (if x3 = 0 then jR d 79 27 [.ref a, .int i1, .int i2] [.int 1, .int i1] μ else jR d 79 27 [.ref a, .int i1, .int i2] [.int 0, .int i1] μ) else some (some (.int i1), μ)) :=
  (l_iload_n (show gPG 79 4 = some (.iload_n 2) by decide +kernel) rfl).trans <|
  (l_aload_n (show gPG 79 5 = some (.aload_n 0) by decide +kernel) rfl jr_ref).trans <|
  (l_gI (show gPG 79 6 = some (.getfield 24) by decide +kernel) (kd := 4) (sl := 0) (tc := 0) (fin := 0) (z := 0) (by decide +kernel) (by decide +kernel) (by decide +kernel)).trans <| bd_cg fun x1 hx1 =>
  (l_cmp (show gPG 79 9 = some (.if_icmp .ge 26) by decide +kernel) (t := 35) (by decide +kernel)).trans <| jm_ge.trans <| ite_cg (
  (l_iload_n (show gPG 79 12 = some (.iload_n 1) by decide +kernel) rfl).trans <|
  (l_aload_n (show gPG 79 13 = some (.aload_n 0) by decide +kernel) rfl jr_ref).trans <|
  (l_gR (show gPG 79 14 = some (.getfield 21) by decide +kernel) (kd := 4) (sl := 4) (tc := 1) (fin := 1) (z := 0) (by decide +kernel) (by decide +kernel) (by decide +kernel)).trans <| bd_cg fun w2 hw2 =>
  (l_iload_n (show gPG 79 17 = some (.iload_n 2) by decide +kernel) rfl).trans <|
  (l_iald (show gPG 79 18 = some (.iaload) by decide +kernel) ).trans <| bd_cg fun x3 hx3 =>
  (l_cmp0 (show gPG 79 19 = some (.ifCond .ne 7) by decide +kernel) (t := 26) (by decide +kernel)).trans <| jm_ne.trans <| ite_cg (
  (l_iconst (show gPG 79 22 = some (.iconst 1) by decide +kernel) (c := 1) (by decide +kernel)).trans <|
  l_goto (show gPG 79 23 = some (.goto 4) by decide +kernel) (t := 27) (by decide +kernel)) (
  l_iconst (show gPG 79 26 = some (.iconst 0) by decide +kernel) (c := 0) (by decide +kernel))) (
  (l_iload_n (show gPG 79 35 = some (.iload_n 1) by decide +kernel) rfl).trans <|
  l_iret1 (show gPG 79 36 = some (.ireturn) by decide +kernel) (by decide +kernel))
theorem b79_27 (d : Nat) (μ : jM) (a : Nat) (u1 : Value) (i2 : Int32) (s0 : Int32) (s1 : Int32) : jR d 79 27 [.ref a, u1, .int i2] [.int s1, .int s0] μ = jR d 79 4 [.ref a, .int (s0 + s1), .int (i2 + 1)] [] μ :=
  (l_iadd (show gPG 79 27 = some (.iadd) by decide +kernel) ).trans <|
  (l_istore_n (show gPG 79 28 = some (.istore_n 1) by decide +kernel) (ls := [.ref a, u1, .int i2]) (show (1 : Nat) < 3 by decide) (show _ = ([.ref a, .int (s0 + s1), .int i2] : List Value) from rfl)).trans <|
  (l_iinc (show gPG 79 29 = some (.iinc 2 1) by decide +kernel) (c := 1) (by decide +kernel) rfl (show _ = ([.ref a, .int (s0 + s1), .int (i2 + 1)] : List Value) from rfl)).trans <|
  l_goto (show gPG 79 32 = some (.goto (-28)) by decide +kernel) (t := 4) (by decide +kernel)
-- Merging.init
theorem b111_0 (d : Nat) (μ : jM) (a : Nat) : jR (d + 1) 111 0 [.ref a] [] μ = (jC d 87 [(.ref (jsz μ))] ((jnew μ 6 0 6))).bind fun p1 => jR (d + 1) 111 12 [.ref a] (p1.1.toList ++ [(.ref (jsz μ)), .ref a]) p1.2 :=
  (l_aload_n (show gPG 111 0 = some (.aload_n 0) by decide +kernel) rfl jr_ref).trans <|
  (l_obj (u := 3) (show gPG 111 1 = some (jinvI 3 3) by decide +kernel) (by decide) (q2 := 99) (q3 := 0) (z := 18) (by decide +kernel) (by decide +kernel) cs0 (by decide +kernel)).trans <|
  (l_aload_n (show gPG 111 4 = some (.aload_n 0) by decide +kernel) rfl jr_ref).trans <|
  (l_new (show gPG 111 5 = some (.new 9) by decide +kernel) (kd := 6) (wd := 6) (q3 := 0) (q4 := 0) (by decide +kernel)).trans <|
  (l_dup (show gPG 111 8 = some (.dup) by decide +kernel) (jr_cat1 jr_ref)).trans <|
  l_callS (u := 3) (as := [(.ref (jsz μ))]) (show gPG 111 9 = some (jinvI 3 11) by decide +kernel) (by decide) (cc := 87) (na := 1) (q4 := 0) (z := 15) (rest := [(.ref (jsz μ)), .ref a]) (by decide +kernel) (by decide +kernel)  rfl (show (1 : Nat) ≤ 3 by decide) rfl (csv jr_ref (csv jr_ref cs0)) (by decide +kernel) (cav jr_ref ca0) (fun _ => ⟨_, _, rfl⟩)
theorem b111_12 (d : Nat) (μ : jM) (a : Nat) (s0 : Value) (s1 : Nat) (hs0 : jisref s0 = true) : jR (d + 1) 111 12 [.ref a] [(.ref s1), s0] μ = (jpR μ 7 0 s0 ((.ref s1))).bind fun m1 => (jC d 74 [(.ref (jsz m1))] ((jnew m1 4 0 5))).bind fun p2 => jR (d + 1) 111 23 [.ref a] (p2.1.toList ++ [(.ref (jsz m1)), .ref a]) p2.2 :=
  (l_pR (show gPG 111 12 = some (.putfield 12) by decide +kernel) (kd := 7) (sl := 0) (tc := 1) (fin := 1) (z := 0) (by decide +kernel) (by decide +kernel) (by decide +kernel) jr_ref).trans <| bd_cg fun m1 hm1 =>
  (l_aload_n (show gPG 111 15 = some (.aload_n 0) by decide +kernel) rfl jr_ref).trans <|
  (l_new (show gPG 111 16 = some (.new 18) by decide +kernel) (kd := 4) (wd := 5) (q3 := 0) (q4 := 0) (by decide +kernel)).trans <|
  (l_dup (show gPG 111 19 = some (.dup) by decide +kernel) (jr_cat1 jr_ref)).trans <|
  l_callS (u := 3) (as := [(.ref (jsz m1))]) (show gPG 111 20 = some (jinvI 3 20) by decide +kernel) (by decide) (cc := 74) (na := 1) (q4 := 0) (z := 15) (rest := [(.ref (jsz m1)), .ref a]) (by decide +kernel) (by decide +kernel)  rfl (show (1 : Nat) ≤ 3 by decide) rfl (csv jr_ref (csv jr_ref cs0)) (by decide +kernel) (cav jr_ref ca0) (fun _ => ⟨_, _, rfl⟩)
theorem b111_23 (d : Nat) (μ : jM) (u0 : Value) (s0 : Value) (s1 : Nat) (hs0 : jisref s0 = true) : jR d 111 23 [u0] [(.ref s1), s0] μ = (jpR μ 7 1 s0 ((.ref s1))).bind fun m1 => some (none, m1) :=
  (l_pR (show gPG 111 23 = some (.putfield 21) by decide +kernel) (kd := 7) (sl := 1) (tc := 1) (fin := 1) (z := 0) (by decide +kernel) (by decide +kernel) (by decide +kernel) jr_ref).trans <| bd_cg fun m1 hm1 =>
  l_ret (show gPG 111 26 = some (.return_) by decide +kernel) (by decide +kernel)
-- Merging.make
theorem b112_0 (d : Nat) (μ : jM) (a : Nat) (r1 : Value) (r2 : Value) (r3 : Value) (r4 : Value) (h1 : jisref r1 = true) (h2 : jisref r2 = true) (h3 : jisref r3 = true) (h4 : jisref r4 = true) : jR (d + 1) 112 0 [.ref a, r1, r2, r3, r4, .retAddr 0] [] μ = (jpR μ 7 2 (.ref a) r1).bind fun m1 => (jpR m1 7 3 (.ref a) r2).bind fun m2 => (jpR m2 7 4 (.ref a) r3).bind fun m3 => (jpR m3 7 5 (.ref a) r4).bind fun m4 => (jgR m4 7 0 (.ref a)).bind fun w5 => (jpI m4 6 0 0 w5 0).bind fun m6 => (jgR m6 7 1 (.ref a)).bind fun w7 => (if jrecv m6 4 w7 = true then (jC d 75 [w7] m6).bind fun p8 => jR (d + 1) 112 36 [.ref a, r1, r2, r3, r4, .retAddr 0] (p8.1.toList ++ []) p8.2 else none) :=
  (l_aload_n (show gPG 112 0 = some (.aload_n 0) by decide +kernel) rfl jr_ref).trans <|
  (l_aload_n (show gPG 112 1 = some (.aload_n 1) by decide +kernel) rfl h1).trans <|
  (l_pR (show gPG 112 2 = some (.putfield 25) by decide +kernel) (kd := 7) (sl := 2) (tc := 1) (fin := 0) (z := 0) (by decide +kernel) (by decide +kernel) (by decide +kernel) h1).trans <| bd_cg fun m1 hm1 =>
  (l_aload_n (show gPG 112 5 = some (.aload_n 0) by decide +kernel) rfl jr_ref).trans <|
  (l_aload_n (show gPG 112 6 = some (.aload_n 2) by decide +kernel) rfl h2).trans <|
  (l_pR (show gPG 112 7 = some (.putfield 28) by decide +kernel) (kd := 7) (sl := 3) (tc := 1) (fin := 0) (z := 0) (by decide +kernel) (by decide +kernel) (by decide +kernel) h2).trans <| bd_cg fun m2 hm2 =>
  (l_aload_n (show gPG 112 10 = some (.aload_n 0) by decide +kernel) rfl jr_ref).trans <|
  (l_aload_n (show gPG 112 11 = some (.aload_n 3) by decide +kernel) rfl h3).trans <|
  (l_pR (show gPG 112 12 = some (.putfield 31) by decide +kernel) (kd := 7) (sl := 4) (tc := 1) (fin := 0) (z := 0) (by decide +kernel) (by decide +kernel) (by decide +kernel) h3).trans <| bd_cg fun m3 hm3 =>
  (l_aload_n (show gPG 112 15 = some (.aload_n 0) by decide +kernel) rfl jr_ref).trans <|
  (l_aload (show gPG 112 16 = some (.aload 4) by decide +kernel) rfl h4).trans <|
  (l_pR (show gPG 112 18 = some (.putfield 34) by decide +kernel) (kd := 7) (sl := 5) (tc := 1) (fin := 0) (z := 0) (by decide +kernel) (by decide +kernel) (by decide +kernel) h4).trans <| bd_cg fun m4 hm4 =>
  (l_aload_n (show gPG 112 21 = some (.aload_n 0) by decide +kernel) rfl jr_ref).trans <|
  (l_gR (show gPG 112 22 = some (.getfield 12) by decide +kernel) (kd := 7) (sl := 0) (tc := 1) (fin := 1) (z := 0) (by decide +kernel) (by decide +kernel) (by decide +kernel)).trans <| bd_cg fun w5 hw5 =>
  (l_iconst (show gPG 112 25 = some (.iconst 0) by decide +kernel) (c := 0) (by decide +kernel)).trans <|
  (l_pI (show gPG 112 26 = some (.putfield 38) by decide +kernel) (kd := 6) (sl := 0) (tc := 0) (fin := 0) (z := 1) (by decide +kernel) (by decide +kernel) (by decide +kernel)).trans <| bd_cg fun m6 hm6 =>
  (l_aload_n (show gPG 112 29 = some (.aload_n 0) by decide +kernel) rfl jr_ref).trans <|
  (l_gR (show gPG 112 30 = some (.getfield 21) by decide +kernel) (kd := 7) (sl := 1) (tc := 1) (fin := 1) (z := 0) (by decide +kernel) (by decide +kernel) (by decide +kernel)).trans <| bd_cg fun w7 hw7 =>
  l_callV (u := 1) (v := w7) (as := []) (show gPG 112 33 = some (jinvI 1 42) by decide +kernel) (by decide) (cc := 75) (na := 1) (kd := 4) (q4 := 0) (z := 11) (rest := []) (by decide +kernel) (by decide +kernel)  rfl (show (1 : Nat) ≤ 1 by decide) rfl cs0 (by decide +kernel) (cav (jr_gR hw7) ca0)
theorem b112_36 (d : Nat) (μ : jM) (a : Nat) (u1 : Value) (u2 : Value) (u3 : Value) (u4 : Value) (u5 : Value) : jR (d + 1) 112 36 [.ref a, u1, u2, u3, u4, u5] [] μ = (if jrecv μ 7 (.ref a) = true then (jC d 113 [.ref a] μ).bind fun p1 => jR (d + 1) 112 40 [.ref a, u1, u2, u3, u4, u5] (p1.1.toList ++ []) p1.2 else none) :=
  (l_aload_n (show gPG 112 36 = some (.aload_n 0) by decide +kernel) rfl jr_ref).trans <|
  l_callV (u := 1) (v := .ref a) (as := []) (show gPG 112 37 = some (jinvI 1 45) by decide +kernel) (by decide) (cc := 113) (na := 1) (kd := 7) (q4 := 0) (z := 10) (rest := []) (by decide +kernel) (by decide +kernel)  rfl (show (1 : Nat) ≤ 1 by decide) rfl cs0 (by decide +kernel) (cav jr_ref ca0)
theorem b112_40 (d : Nat) (μ : jM) (a : Nat) (u1 : Value) (u2 : Value) (u3 : Value) (u4 : Value) (u5 : Value) : jR (d + 1) 112 40 [.ref a, u1, u2, u3, u4, u5] [] μ = (if jrecv μ 7 (.ref a) = true then (jC d 115 [.ref a] μ).bind fun p1 => jR (d + 1) 112 44 [.ref a, u1, u2, u3, u4, u5] (p1.1.toList ++ []) p1.2 else none) :=
  (l_aload_n (show gPG 112 40 = some (.aload_n 0) by decide +kernel) rfl jr_ref).trans <|
  l_callV (u := 1) (v := .ref a) (as := []) (show gPG 112 41 = some (jinvI 1 48) by decide +kernel) (by decide) (cc := 115) (na := 1) (kd := 7) (q4 := 0) (z := 10) (rest := []) (by decide +kernel) (by decide +kernel)  rfl (show (1 : Nat) ≤ 1 by decide) rfl cs0 (by decide +kernel) (cav jr_ref ca0)
theorem b112_44 (d : Nat) (μ : jM) (a : Nat) (u1 : Value) (u2 : Value) (u3 : Value) (u4 : Value) (u5 : Value) (s0 : Int32) : jR d 112 44 [.ref a, u1, u2, u3, u4, u5] [.int s0] μ = (if s0 = 0 then some (some (.int 0), μ) else jR d 112 52 [.ref a, u1, u2, u3, u4, .int 1] [] μ) :=
  (l_cmp0 (show gPG 112 44 = some (.ifCond .ne 5) by decide +kernel) (t := 49) (by decide +kernel)).trans <| jm_ne.trans <| ite_cg (
  (l_iconst (show gPG 112 47 = some (.iconst 0) by decide +kernel) (c := 0) (by decide +kernel)).trans <|
  l_iretK (show gPG 112 48 = some (.ireturn) by decide +kernel) (by decide +kernel)) (
  (l_iconst (show gPG 112 49 = some (.iconst 1) by decide +kernel) (c := 1) (by decide +kernel)).trans <|
  l_istore (show gPG 112 50 = some (.istore 5) by decide +kernel) (ls := [.ref a, u1, u2, u3, u4, u5]) (show (5 : Nat) < 6 by decide) (show _ = ([.ref a, u1, u2, u3, u4, .int 1] : List Value) from rfl))
theorem b112_52 (d : Nat) (μ : jM) (a : Nat) (u1 : Value) (u2 : Value) (u3 : Value) (u4 : Value) (i5 : Int32) : jR (d + 1) 112 52 [.ref a, u1, u2, u3, u4, .int i5] [] μ = (if 99 < i5 then some (some (.int 1), μ) else (jgR μ 7 0 (.ref a)).bind fun w1 => (if jrecv μ 6 w1 = true then (jC d 92 [w1, .int i5] μ).bind fun p2 => jR (d + 1) 112 68 [.ref a, u1, u2, u3, u4, .int i5] (p2.1.toList ++ []) p2.2 else none)) :=
  (l_iload (show gPG 112 52 = some (.iload 5) by decide +kernel) rfl).trans <|
  (l_bipush (show gPG 112 54 = some (.bipush 99) by decide +kernel) (c := 99) (by decide +kernel)).trans <|
  (l_cmp (show gPG 112 56 = some (.if_icmp .gt 32) by decide +kernel) (t := 88) (by decide +kernel)).trans <| jm_gt.trans <| ite_cg (
  (l_iconst (show gPG 112 88 = some (.iconst 1) by decide +kernel) (c := 1) (by decide +kernel)).trans <|
  l_iretK (show gPG 112 89 = some (.ireturn) by decide +kernel) (by decide +kernel)) (
  (l_aload_n (show gPG 112 59 = some (.aload_n 0) by decide +kernel) rfl jr_ref).trans <|
  (l_gR (show gPG 112 60 = some (.getfield 12) by decide +kernel) (kd := 7) (sl := 0) (tc := 1) (fin := 1) (z := 0) (by decide +kernel) (by decide +kernel) (by decide +kernel)).trans <| bd_cg fun w1 hw1 =>
  (l_iload (show gPG 112 63 = some (.iload 5) by decide +kernel) rfl).trans <|
  l_callV (u := 1) (v := w1) (as := [.int i5]) (show gPG 112 65 = some (jinvI 1 52) by decide +kernel) (by decide) (cc := 92) (na := 2) (kd := 6) (q4 := 0) (z := 11) (rest := []) (by decide +kernel) (by decide +kernel)  rfl (show (2 : Nat) ≤ 2 by decide) rfl cs0 (by decide +kernel) (cai (cav (jr_gR hw1) ca0)))
theorem b112_68 (d : Nat) (μ : jM) (a : Nat) (u1 : Value) (u2 : Value) (u3 : Value) (u4 : Value) (i5 : Int32) (s0 : Int32) : jR (d + 1) 112 68 [.ref a, u1, u2, u3, u4, .int i5] [.int s0] μ = (if s0 = (-1) then jR (d + 1) 112 82 [.ref a, u1, u2, u3, u4, .int i5] [] μ else (if jrecv μ 7 (.ref a) = true then (jC d 114 [.ref a, .int i5] μ).bind fun p1 => jR (d + 1) 112 78 [.ref a, u1, u2, u3, u4, .int i5] (p1.1.toList ++ []) p1.2 else none)) :=
  (l_iconst (show gPG 112 68 = some (.iconst (-1)) by decide +kernel) (c := (-1)) (by decide +kernel)).trans <|
  (l_cmp (show gPG 112 69 = some (.if_icmp .eq 13) by decide +kernel) (t := 82) (by decide +kernel)).trans <| jm_eq.trans <| ite_cg (
  rfl) (
  (l_aload_n (show gPG 112 72 = some (.aload_n 0) by decide +kernel) rfl jr_ref).trans <|
  (l_iload (show gPG 112 73 = some (.iload 5) by decide +kernel) rfl).trans <|
  l_callV (u := 1) (v := .ref a) (as := [.int i5]) (show gPG 112 75 = some (jinvI 1 56) by decide +kernel) (by decide) (cc := 114) (na := 2) (kd := 7) (q4 := 0) (z := 10) (rest := []) (by decide +kernel) (by decide +kernel)  rfl (show (2 : Nat) ≤ 2 by decide) rfl cs0 (by decide +kernel) (cai (cav jr_ref ca0)))
theorem b112_78 (d : Nat) (μ : jM) (a : Nat) (u1 : Value) (u2 : Value) (u3 : Value) (u4 : Value) (i5 : Int32) : jR (d + 1) 112 78 [.ref a, u1, u2, u3, u4, .int i5] [] μ = (if jrecv μ 7 (.ref a) = true then (jC d 116 [.ref a] μ).bind fun p1 => jR (d + 1) 112 82 [.ref a, u1, u2, u3, u4, .int i5] (p1.1.toList ++ []) p1.2 else none) :=
  (l_aload_n (show gPG 112 78 = some (.aload_n 0) by decide +kernel) rfl jr_ref).trans <|
  l_callV (u := 1) (v := .ref a) (as := []) (show gPG 112 79 = some (jinvI 1 60) by decide +kernel) (by decide) (cc := 116) (na := 1) (kd := 7) (q4 := 0) (z := 10) (rest := []) (by decide +kernel) (by decide +kernel)  rfl (show (1 : Nat) ≤ 1 by decide) rfl cs0 (by decide +kernel) (cav jr_ref ca0)
theorem b112_82 (d : Nat) (μ : jM) (a : Nat) (u1 : Value) (u2 : Value) (u3 : Value) (u4 : Value) (i5 : Int32) : jR d 112 82 [.ref a, u1, u2, u3, u4, .int i5] [] μ = jR d 112 52 [.ref a, u1, u2, u3, u4, .int (i5 + 1)] [] μ :=
  (l_iinc (show gPG 112 82 = some (.iinc 5 1) by decide +kernel) (c := 1) (by decide +kernel) rfl (show _ = ([.ref a, u1, u2, u3, u4, .int (i5 + 1)] : List Value) from rfl)).trans <|
  l_goto (show gPG 112 85 = some (.goto (-33)) by decide +kernel) (t := 52) (by decide +kernel)
-- Merging.placeRowsOfMine
theorem b113_0 (d : Nat) (μ : jM) (a : Nat) : jR d 113 0 [.ref a, .retAddr 0] [] μ = jR d 113 2 [.ref a, .int 0] [] μ :=
  (l_iconst (show gPG 113 0 = some (.iconst 0) by decide +kernel) (c := 0) (by decide +kernel)).trans <|
  l_istore_n (show gPG 113 1 = some (.istore_n 1) by decide +kernel) (ls := [.ref a, .retAddr 0]) (show (1 : Nat) < 2 by decide) (show _ = ([.ref a, .int 0] : List Value) from rfl)
theorem b113_2 (d : Nat) (μ : jM) (a : Nat) (i1 : Int32) : jR (d + 1) 113 2 [.ref a, .int i1] [] μ = (jgR μ 7 3 (.ref a)).bind fun w1 => (jgI μ 6 0 w1).bind fun x2 => (if i1 < x2 then (jgR μ 7 3 (.ref a)).bind fun w3 => (if jrecv μ 6 w3 = true then (jC d 89 [w3, .int i1] μ).bind fun p4 => jR (d + 1) 113 22 [.ref a, .int i1] (p4.1.toList ++ [.ref a]) p4.2 else none) else some (none, μ)) :=
  (l_iload_n (show gPG 113 2 = some (.iload_n 1) by decide +kernel) rfl).trans <|
  (l_aload_n (show gPG 113 3 = some (.aload_n 0) by decide +kernel) rfl jr_ref).trans <|
  (l_gR (show gPG 113 4 = some (.getfield 28) by decide +kernel) (kd := 7) (sl := 3) (tc := 1) (fin := 0) (z := 0) (by decide +kernel) (by decide +kernel) (by decide +kernel)).trans <| bd_cg fun w1 hw1 =>
  (l_gI (show gPG 113 7 = some (.getfield 38) by decide +kernel) (kd := 6) (sl := 0) (tc := 0) (fin := 0) (z := 1) (by decide +kernel) (by decide +kernel) (by decide +kernel)).trans <| bd_cg fun x2 hx2 =>
  (l_cmp (show gPG 113 10 = some (.if_icmp .ge 77) by decide +kernel) (t := 87) (by decide +kernel)).trans <| jm_ge.trans <| ite_cg (
  (l_aload_n (show gPG 113 13 = some (.aload_n 0) by decide +kernel) rfl jr_ref).trans <|
  (l_aload_n (show gPG 113 14 = some (.aload_n 0) by decide +kernel) rfl jr_ref).trans <|
  (l_gR (show gPG 113 15 = some (.getfield 28) by decide +kernel) (kd := 7) (sl := 3) (tc := 1) (fin := 0) (z := 0) (by decide +kernel) (by decide +kernel) (by decide +kernel)).trans <| bd_cg fun w3 hw3 =>
  (l_iload_n (show gPG 113 18 = some (.iload_n 1) by decide +kernel) rfl).trans <|
  l_callV (u := 1) (v := w3) (as := [.int i1]) (show gPG 113 19 = some (jinvI 1 78) by decide +kernel) (by decide) (cc := 89) (na := 2) (kd := 6) (q4 := 0) (z := 11) (rest := [.ref a]) (by decide +kernel) (by decide +kernel)  rfl (show (2 : Nat) ≤ 3 by decide) rfl (csv jr_ref cs0) (by decide +kernel) (cai (cav (jr_gR hw3) ca0))) (
  l_ret (show gPG 113 87 = some (.return_) by decide +kernel) (by decide +kernel))
theorem b113_22 (d : Nat) (μ : jM) (a : Nat) (i1 : Int32) (s0 : Value) (s1 : Int32) (hs0 : jisref s0 = true) : jR (d + 1) 113 22 [.ref a, .int i1] [.int s1, s0] μ = (if jrecv μ 7 s0 = true then (jC d 114 [s0, .int s1] μ).bind fun p1 => jR (d + 1) 113 25 [.ref a, .int i1] (p1.1.toList ++ []) p1.2 else none) :=
  l_callV (u := 1) (v := s0) (as := [.int s1]) (show gPG 113 22 = some (jinvI 1 56) by decide +kernel) (by decide) (cc := 114) (na := 2) (kd := 7) (q4 := 0) (z := 10) (rest := []) (by decide +kernel) (by decide +kernel)  rfl (show (2 : Nat) ≤ 2 by decide) rfl cs0 (by decide +kernel) (cai (cav hs0 ca0))
theorem b113_25 (d : Nat) (μ : jM) (a : Nat) (i1 : Int32) : jR (d + 1) 113 25 [.ref a, .int i1] [] μ = (jgI μ 7 9 (.ref a)).bind fun x1 => (if x1 = (-1) then (jgI μ 7 7 (.ref a)).bind fun x2 => (if x2 = (-1) then jR (d + 1) 113 63 [.ref a, .int i1] [] μ else (jgR μ 7 2 (.ref a)).bind fun w3 => (jgI μ 7 7 (.ref a)).bind fun x4 => (jgR μ 7 3 (.ref a)).bind fun w5 => (jgI μ 7 8 (.ref a)).bind fun x6 => (if jrecv μ 6 w3 = true then (jC d 106 [w3, .int x4, w5, .int x6] μ).bind fun p7 => jR (d + 1) 113 60 [.ref a, .int i1] (p7.1.toList ++ []) p7.2 else none)) else jR (d + 1) 113 63 [.ref a, .int i1] [] μ) :=
  (l_aload_n (show gPG 113 25 = some (.aload_n 0) by decide +kernel) rfl jr_ref).trans <|
  (l_gI (show gPG 113 26 = some (.getfield 72) by decide +kernel) (kd := 7) (sl := 9) (tc := 0) (fin := 0) (z := 0) (by decide +kernel) (by decide +kernel) (by decide +kernel)).trans <| bd_cg fun x1 hx1 =>
  (l_iconst (show gPG 113 29 = some (.iconst (-1)) by decide +kernel) (c := (-1)) (by decide +kernel)).trans <|
  (l_cmp (show gPG 113 30 = some (.if_icmp .ne 33) by decide +kernel) (t := 63) (by decide +kernel)).trans <| jm_ne.trans <| ite_cg (
  (l_aload_n (show gPG 113 33 = some (.aload_n 0) by decide +kernel) rfl jr_ref).trans <|
  (l_gI (show gPG 113 34 = some (.getfield 66) by decide +kernel) (kd := 7) (sl := 7) (tc := 0) (fin := 0) (z := 0) (by decide +kernel) (by decide +kernel) (by decide +kernel)).trans <| bd_cg fun x2 hx2 =>
  (l_iconst (show gPG 113 37 = some (.iconst (-1)) by decide +kernel) (c := (-1)) (by decide +kernel)).trans <|
  (l_cmp (show gPG 113 38 = some (.if_icmp .eq 25) by decide +kernel) (t := 63) (by decide +kernel)).trans <| jm_eq.trans <| ite_cg (
  rfl) (
  (l_aload_n (show gPG 113 41 = some (.aload_n 0) by decide +kernel) rfl jr_ref).trans <|
  (l_gR (show gPG 113 42 = some (.getfield 25) by decide +kernel) (kd := 7) (sl := 2) (tc := 1) (fin := 0) (z := 0) (by decide +kernel) (by decide +kernel) (by decide +kernel)).trans <| bd_cg fun w3 hw3 =>
  (l_aload_n (show gPG 113 45 = some (.aload_n 0) by decide +kernel) rfl jr_ref).trans <|
  (l_gI (show gPG 113 46 = some (.getfield 66) by decide +kernel) (kd := 7) (sl := 7) (tc := 0) (fin := 0) (z := 0) (by decide +kernel) (by decide +kernel) (by decide +kernel)).trans <| bd_cg fun x4 hx4 =>
  (l_aload_n (show gPG 113 49 = some (.aload_n 0) by decide +kernel) rfl jr_ref).trans <|
  (l_gR (show gPG 113 50 = some (.getfield 28) by decide +kernel) (kd := 7) (sl := 3) (tc := 1) (fin := 0) (z := 0) (by decide +kernel) (by decide +kernel) (by decide +kernel)).trans <| bd_cg fun w5 hw5 =>
  (l_aload_n (show gPG 113 53 = some (.aload_n 0) by decide +kernel) rfl jr_ref).trans <|
  (l_gI (show gPG 113 54 = some (.getfield 69) by decide +kernel) (kd := 7) (sl := 8) (tc := 0) (fin := 0) (z := 0) (by decide +kernel) (by decide +kernel) (by decide +kernel)).trans <| bd_cg fun x6 hx6 =>
  l_callV (u := 1) (v := w3) (as := [.int x4, w5, .int x6]) (show gPG 113 57 = some (jinvI 1 81) by decide +kernel) (by decide) (cc := 106) (na := 4) (kd := 6) (q4 := 0) (z := 11) (rest := []) (by decide +kernel) (by decide +kernel)  rfl (show (4 : Nat) ≤ 4 by decide) rfl cs0 (by decide +kernel) (cai (cav (jr_gR hw5) (cai (cav (jr_gR hw3) ca0)))))) (
  rfl)
theorem b113_60 (d : Nat) (μ : jM) (a : Nat) (i1 : Int32) (s0 : Int32) : jR d 113 60 [.ref a, .int i1] [.int s0] μ = (if s0 = 0 then jR d 113 63 [.ref a, .int i1] [] μ else jR d 113 81 [.ref a, .int i1] [] μ) :=
  (l_cmp0 (show gPG 113 60 = some (.ifCond .ne 21) by decide +kernel) (t := 81) (by decide +kernel)).trans <| jm_ne.trans <| ite_cg (
  rfl) (
  rfl)
theorem b113_63 (d : Nat) (μ : jM) (a : Nat) (i1 : Int32) : jR (d + 1) 113 63 [.ref a, .int i1] [] μ = (jgR μ 7 0 (.ref a)).bind fun w1 => (jgR μ 7 0 (.ref a)).bind fun w2 => (jgI μ 6 0 w2).bind fun x3 => (jgI μ 7 6 (.ref a)).bind fun x4 => (if jrecv μ 6 w1 = true then (jC d 93 [w1, .int x3, .int x4] μ).bind fun p5 => jR (d + 1) 113 81 [.ref a, .int i1] (p5.1.toList ++ []) p5.2 else none) :=
  (l_aload_n (show gPG 113 63 = some (.aload_n 0) by decide +kernel) rfl jr_ref).trans <|
  (l_gR (show gPG 113 64 = some (.getfield 12) by decide +kernel) (kd := 7) (sl := 0) (tc := 1) (fin := 1) (z := 0) (by decide +kernel) (by decide +kernel) (by decide +kernel)).trans <| bd_cg fun w1 hw1 =>
  (l_aload_n (show gPG 113 67 = some (.aload_n 0) by decide +kernel) rfl jr_ref).trans <|
  (l_gR (show gPG 113 68 = some (.getfield 12) by decide +kernel) (kd := 7) (sl := 0) (tc := 1) (fin := 1) (z := 0) (by decide +kernel) (by decide +kernel) (by decide +kernel)).trans <| bd_cg fun w2 hw2 =>
  (l_gI (show gPG 113 71 = some (.getfield 38) by decide +kernel) (kd := 6) (sl := 0) (tc := 0) (fin := 0) (z := 1) (by decide +kernel) (by decide +kernel) (by decide +kernel)).trans <| bd_cg fun x3 hx3 =>
  (l_aload_n (show gPG 113 74 = some (.aload_n 0) by decide +kernel) rfl jr_ref).trans <|
  (l_gI (show gPG 113 75 = some (.getfield 63) by decide +kernel) (kd := 7) (sl := 6) (tc := 0) (fin := 0) (z := 0) (by decide +kernel) (by decide +kernel) (by decide +kernel)).trans <| bd_cg fun x4 hx4 =>
  l_callV (u := 1) (v := w1) (as := [.int x3, .int x4]) (show gPG 113 78 = some (jinvI 1 85) by decide +kernel) (by decide) (cc := 93) (na := 3) (kd := 6) (q4 := 0) (z := 11) (rest := []) (by decide +kernel) (by decide +kernel)  rfl (show (3 : Nat) ≤ 3 by decide) rfl cs0 (by decide +kernel) (cai (cai (cav (jr_gR hw1) ca0)))
theorem b113_81 (d : Nat) (μ : jM) (a : Nat) (i1 : Int32) : jR d 113 81 [.ref a, .int i1] [] μ = jR d 113 2 [.ref a, .int (i1 + 1)] [] μ :=
  (l_iinc (show gPG 113 81 = some (.iinc 1 1) by decide +kernel) (c := 1) (by decide +kernel) rfl (show _ = ([.ref a, .int (i1 + 1)] : List Value) from rfl)).trans <|
  l_goto (show gPG 113 84 = some (.goto (-82)) by decide +kernel) (t := 2) (by decide +kernel)
-- Merging.lookUp
theorem b114_0 (d : Nat) (μ : jM) (a : Nat) (i1 : Int32) : jR (d + 1) 114 0 [.ref a, .int i1] [] μ = (jpI μ 7 6 0 (.ref a) i1).bind fun m1 => (jgR m1 7 2 (.ref a)).bind fun w2 => (if jrecv m1 6 w2 = true then (jC d 92 [w2, .int i1] m1).bind fun p3 => jR (d + 1) 114 14 [.ref a, .int i1] (p3.1.toList ++ [.ref a]) p3.2 else none) :=
  (l_aload_n (show gPG 114 0 = some (.aload_n 0) by decide +kernel) rfl jr_ref).trans <|
  (l_iload_n (show gPG 114 1 = some (.iload_n 1) by decide +kernel) rfl).trans <|
  (l_pI (show gPG 114 2 = some (.putfield 63) by decide +kernel) (kd := 7) (sl := 6) (tc := 0) (fin := 0) (z := 0) (by decide +kernel) (by decide +kernel) (by decide +kernel)).trans <| bd_cg fun m1 hm1 =>
  (l_aload_n (show gPG 114 5 = some (.aload_n 0) by decide +kernel) rfl jr_ref).trans <|
  (l_aload_n (show gPG 114 6 = some (.aload_n 0) by decide +kernel) rfl jr_ref).trans <|
  (l_gR (show gPG 114 7 = some (.getfield 25) by decide +kernel) (kd := 7) (sl := 2) (tc := 1) (fin := 0) (z := 0) (by decide +kernel) (by decide +kernel) (by decide +kernel)).trans <| bd_cg fun w2 hw2 =>
  (l_iload_n (show gPG 114 10 = some (.iload_n 1) by decide +kernel) rfl).trans <|
  l_callV (u := 1) (v := w2) (as := [.int i1]) (show gPG 114 11 = some (jinvI 1 52) by decide +kernel) (by decide) (cc := 92) (na := 2) (kd := 6) (q4 := 0) (z := 11) (rest := [.ref a]) (by decide +kernel) (by decide +kernel)  rfl (show (2 : Nat) ≤ 3 by decide) rfl (csv jr_ref cs0) (by decide +kernel) (cai (cav (jr_gR hw2) ca0))
theorem b114_14 (d : Nat) (μ : jM) (a : Nat) (i1 : Int32) (s0 : Value) (s1 : Int32) (hs0 : jisref s0 = true) : jR (d + 1) 114 14 [.ref a, .int i1] [.int s1, s0] μ = (jpI μ 7 7 0 s0 s1).bind fun m1 => (jgR m1 7 3 (.ref a)).bind fun w2 => (if jrecv m1 6 w2 = true then (jC d 92 [w2, .int i1] m1).bind fun p3 => jR (d + 1) 114 26 [.ref a, .int i1] (p3.1.toList ++ [.ref a]) p3.2 else none) :=
  (l_pI (show gPG 114 14 = some (.putfield 66) by decide +kernel) (kd := 7) (sl := 7) (tc := 0) (fin := 0) (z := 0) (by decide +kernel) (by decide +kernel) (by decide +kernel)).trans <| bd_cg fun m1 hm1 =>
  (l_aload_n (show gPG 114 17 = some (.aload_n 0) by decide +kernel) rfl jr_ref).trans <|
  (l_aload_n (show gPG 114 18 = some (.aload_n 0) by decide +kernel) rfl jr_ref).trans <|
  (l_gR (show gPG 114 19 = some (.getfield 28) by decide +kernel) (kd := 7) (sl := 3) (tc := 1) (fin := 0) (z := 0) (by decide +kernel) (by decide +kernel) (by decide +kernel)).trans <| bd_cg fun w2 hw2 =>
  (l_iload_n (show gPG 114 22 = some (.iload_n 1) by decide +kernel) rfl).trans <|
  l_callV (u := 1) (v := w2) (as := [.int i1]) (show gPG 114 23 = some (jinvI 1 52) by decide +kernel) (by decide) (cc := 92) (na := 2) (kd := 6) (q4 := 0) (z := 11) (rest := [.ref a]) (by decide +kernel) (by decide +kernel)  rfl (show (2 : Nat) ≤ 3 by decide) rfl (csv jr_ref cs0) (by decide +kernel) (cai (cav (jr_gR hw2) ca0))
theorem b114_26 (d : Nat) (μ : jM) (a : Nat) (i1 : Int32) (s0 : Value) (s1 : Int32) (hs0 : jisref s0 = true) : jR (d + 1) 114 26 [.ref a, .int i1] [.int s1, s0] μ = (jpI μ 7 8 0 s0 s1).bind fun m1 => (jgR m1 7 4 (.ref a)).bind fun w2 => (if jrecv m1 6 w2 = true then (jC d 92 [w2, .int i1] m1).bind fun p3 => jR (d + 1) 114 38 [.ref a, .int i1] (p3.1.toList ++ [.ref a]) p3.2 else none) :=
  (l_pI (show gPG 114 26 = some (.putfield 69) by decide +kernel) (kd := 7) (sl := 8) (tc := 0) (fin := 0) (z := 0) (by decide +kernel) (by decide +kernel) (by decide +kernel)).trans <| bd_cg fun m1 hm1 =>
  (l_aload_n (show gPG 114 29 = some (.aload_n 0) by decide +kernel) rfl jr_ref).trans <|
  (l_aload_n (show gPG 114 30 = some (.aload_n 0) by decide +kernel) rfl jr_ref).trans <|
  (l_gR (show gPG 114 31 = some (.getfield 31) by decide +kernel) (kd := 7) (sl := 4) (tc := 1) (fin := 0) (z := 0) (by decide +kernel) (by decide +kernel) (by decide +kernel)).trans <| bd_cg fun w2 hw2 =>
  (l_iload_n (show gPG 114 34 = some (.iload_n 1) by decide +kernel) rfl).trans <|
  l_callV (u := 1) (v := w2) (as := [.int i1]) (show gPG 114 35 = some (jinvI 1 52) by decide +kernel) (by decide) (cc := 92) (na := 2) (kd := 6) (q4 := 0) (z := 11) (rest := [.ref a]) (by decide +kernel) (by decide +kernel)  rfl (show (2 : Nat) ≤ 3 by decide) rfl (csv jr_ref cs0) (by decide +kernel) (cai (cav (jr_gR hw2) ca0))
theorem b114_38 (d : Nat) (μ : jM) (a : Nat) (i1 : Int32) (s0 : Value) (s1 : Int32) (hs0 : jisref s0 = true) : jR (d + 1) 114 38 [.ref a, .int i1] [.int s1, s0] μ = (jpI μ 7 9 0 s0 s1).bind fun m1 => (jgR m1 7 0 (.ref a)).bind fun w2 => (if jrecv m1 6 w2 = true then (jC d 92 [w2, .int i1] m1).bind fun p3 => jR (d + 1) 114 50 [.ref a, .int i1] (p3.1.toList ++ [.ref a]) p3.2 else none) :=
  (l_pI (show gPG 114 38 = some (.putfield 72) by decide +kernel) (kd := 7) (sl := 9) (tc := 0) (fin := 0) (z := 0) (by decide +kernel) (by decide +kernel) (by decide +kernel)).trans <| bd_cg fun m1 hm1 =>
  (l_aload_n (show gPG 114 41 = some (.aload_n 0) by decide +kernel) rfl jr_ref).trans <|
  (l_aload_n (show gPG 114 42 = some (.aload_n 0) by decide +kernel) rfl jr_ref).trans <|
  (l_gR (show gPG 114 43 = some (.getfield 12) by decide +kernel) (kd := 7) (sl := 0) (tc := 1) (fin := 1) (z := 0) (by decide +kernel) (by decide +kernel) (by decide +kernel)).trans <| bd_cg fun w2 hw2 =>
  (l_iload_n (show gPG 114 46 = some (.iload_n 1) by decide +kernel) rfl).trans <|
  l_callV (u := 1) (v := w2) (as := [.int i1]) (show gPG 114 47 = some (jinvI 1 52) by decide +kernel) (by decide) (cc := 92) (na := 2) (kd := 6) (q4 := 0) (z := 11) (rest := [.ref a]) (by decide +kernel) (by decide +kernel)  rfl (show (2 : Nat) ≤ 3 by decide) rfl (csv jr_ref cs0) (by decide +kernel) (cai (cav (jr_gR hw2) ca0))
theorem b114_50 (d : Nat) (μ : jM) (u0 : Value) (u1 : Value) (s0 : Value) (s1 : Int32) (hs0 : jisref s0 = true) : jR d 114 50 [u0, u1] [.int s1, s0] μ = (jpI μ 7 10 0 s0 s1).bind fun m1 => some (none, m1) :=
  (l_pI (show gPG 114 50 = some (.putfield 75) by decide +kernel) (kd := 7) (sl := 10) (tc := 0) (fin := 0) (z := 0) (by decide +kernel) (by decide +kernel) (by decide +kernel)).trans <| bd_cg fun m1 hm1 =>
  l_ret (show gPG 114 53 = some (.return_) by decide +kernel) (by decide +kernel)
-- Merging.placeRowsOfTheirs
theorem b115_0 (d : Nat) (μ : jM) (a : Nat) : jR d 115 0 [.ref a, .retAddr 0, .retAddr 0] [] μ = jR d 115 4 [.ref a, .int 0, .int 0] [] μ :=
  (l_iconst (show gPG 115 0 = some (.iconst 0) by decide +kernel) (c := 0) (by decide +kernel)).trans <|
  (l_istore_n (show gPG 115 1 = some (.istore_n 1) by decide +kernel) (ls := [.ref a, .retAddr 0, .retAddr 0]) (show (1 : Nat) < 3 by decide) (show _ = ([.ref a, .int 0, .retAddr 0] : List Value) from rfl)).trans <|
  (l_iconst (show gPG 115 2 = some (.iconst 0) by decide +kernel) (c := 0) (by decide +kernel)).trans <|
  l_istore_n (show gPG 115 3 = some (.istore_n 2) by decide +kernel) (ls := [.ref a, .int 0, .retAddr 0]) (show (2 : Nat) < 3 by decide) (show _ = ([.ref a, .int 0, .int 0] : List Value) from rfl)
theorem b115_4 (d : Nat) (μ : jM) (a : Nat) (i1 : Int32) (i2 : Int32) : jR (d + 1) 115 4 [.ref a, .int i1, .int i2] [] μ = (jgR μ 7 4 (.ref a)).bind fun w1 => (jgI μ 6 0 w1).bind fun x2 => (if i2 < x2 then (jgR μ 7 4 (.ref a)).bind fun w3 => (if jrecv μ 6 w3 = true then (jC d 89 [w3, .int i2] μ).bind fun p4 => jR (d + 1) 115 24 [.ref a, .int i1, .int i2] (p4.1.toList ++ [.ref a]) p4.2 else none) else some (some (.int 1), μ)) :=
  (l_iload_n (show gPG 115 4 = some (.iload_n 2) by decide +kernel) rfl).trans <|
  (l_aload_n (show gPG 115 5 = some (.aload_n 0) by decide +kernel) rfl jr_ref).trans <|
  (l_gR (show gPG 115 6 = some (.getfield 31) by decide +kernel) (kd := 7) (sl := 4) (tc := 1) (fin := 0) (z := 0) (by decide +kernel) (by decide +kernel) (by decide +kernel)).trans <| bd_cg fun w1 hw1 =>
  (l_gI (show gPG 115 9 = some (.getfield 38) by decide +kernel) (kd := 6) (sl := 0) (tc := 0) (fin := 0) (z := 1) (by decide +kernel) (by decide +kernel) (by decide +kernel)).trans <| bd_cg fun x2 hx2 =>
  (l_cmp (show gPG 115 12 = some (.if_icmp .ge 119) by decide +kernel) (t := 131) (by decide +kernel)).trans <| jm_ge.trans <| ite_cg (
  (l_aload_n (show gPG 115 15 = some (.aload_n 0) by decide +kernel) rfl jr_ref).trans <|
  (l_aload_n (show gPG 115 16 = some (.aload_n 0) by decide +kernel) rfl jr_ref).trans <|
  (l_gR (show gPG 115 17 = some (.getfield 31) by decide +kernel) (kd := 7) (sl := 4) (tc := 1) (fin := 0) (z := 0) (by decide +kernel) (by decide +kernel) (by decide +kernel)).trans <| bd_cg fun w3 hw3 =>
  (l_iload_n (show gPG 115 20 = some (.iload_n 2) by decide +kernel) rfl).trans <|
  l_callV (u := 1) (v := w3) (as := [.int i2]) (show gPG 115 21 = some (jinvI 1 78) by decide +kernel) (by decide) (cc := 89) (na := 2) (kd := 6) (q4 := 0) (z := 11) (rest := [.ref a]) (by decide +kernel) (by decide +kernel)  rfl (show (2 : Nat) ≤ 3 by decide) rfl (csv jr_ref cs0) (by decide +kernel) (cai (cav (jr_gR hw3) ca0))) (
  (l_iconst (show gPG 115 131 = some (.iconst 1) by decide +kernel) (c := 1) (by decide +kernel)).trans <|
  l_iretK (show gPG 115 132 = some (.ireturn) by decide +kernel) (by decide +kernel))
theorem b115_24 (d : Nat) (μ : jM) (a : Nat) (i1 : Int32) (i2 : Int32) (s0 : Value) (s1 : Int32) (hs0 : jisref s0 = true) : jR (d + 1) 115 24 [.ref a, .int i1, .int i2] [.int s1, s0] μ = (if jrecv μ 7 s0 = true then (jC d 114 [s0, .int s1] μ).bind fun p1 => jR (d + 1) 115 27 [.ref a, .int i1, .int i2] (p1.1.toList ++ []) p1.2 else none) :=
  l_callV (u := 1) (v := s0) (as := [.int s1]) (show gPG 115 24 = some (jinvI 1 56) by decide +kernel) (by decide) (cc := 114) (na := 2) (kd := 7) (q4 := 0) (z := 10) (rest := []) (by decide +kernel) (by decide +kernel)  rfl (show (2 : Nat) ≤ 2 by decide) rfl cs0 (by decide +kernel) (cai (cav hs0 ca0))
theorem b115_27 (d : Nat) (μ : jM) (a : Nat) (i1 : Int32) (i2 : Int32) : jR (d + 1) 115 27 [.ref a, .int i1, .int i2] [] μ = (jgI μ 7 8 (.ref a)).bind fun x1 => (if x1 = (-1) then (jgI μ 7 7 (.ref a)).bind fun x2 => (if x2 = (-1) then jR (d + 1) 115 65 [.ref a, .int i1, .int i2] [] μ else (jgR μ 7 2 (.ref a)).bind fun w3 => (jgI μ 7 7 (.ref a)).bind fun x4 => (jgR μ 7 4 (.ref a)).bind fun w5 => (jgI μ 7 9 (.ref a)).bind fun x6 => (if jrecv μ 6 w3 = true then (jC d 106 [w3, .int x4, w5, .int x6] μ).bind fun p7 => jR (d + 1) 115 62 [.ref a, .int i1, .int i2] (p7.1.toList ++ []) p7.2 else none)) else jR (d + 1) 115 91 [.ref a, .int i1, .int i2] [] μ) :=
  (l_aload_n (show gPG 115 27 = some (.aload_n 0) by decide +kernel) rfl jr_ref).trans <|
  (l_gI (show gPG 115 28 = some (.getfield 69) by decide +kernel) (kd := 7) (sl := 8) (tc := 0) (fin := 0) (z := 0) (by decide +kernel) (by decide +kernel) (by decide +kernel)).trans <| bd_cg fun x1 hx1 =>
  (l_iconst (show gPG 115 31 = some (.iconst (-1)) by decide +kernel) (c := (-1)) (by decide +kernel)).trans <|
  (l_cmp (show gPG 115 32 = some (.if_icmp .ne 59) by decide +kernel) (t := 91) (by decide +kernel)).trans <| jm_ne.trans <| ite_cg (
  (l_aload_n (show gPG 115 35 = some (.aload_n 0) by decide +kernel) rfl jr_ref).trans <|
  (l_gI (show gPG 115 36 = some (.getfield 66) by decide +kernel) (kd := 7) (sl := 7) (tc := 0) (fin := 0) (z := 0) (by decide +kernel) (by decide +kernel) (by decide +kernel)).trans <| bd_cg fun x2 hx2 =>
  (l_iconst (show gPG 115 39 = some (.iconst (-1)) by decide +kernel) (c := (-1)) (by decide +kernel)).trans <|
  (l_cmp (show gPG 115 40 = some (.if_icmp .eq 25) by decide +kernel) (t := 65) (by decide +kernel)).trans <| jm_eq.trans <| ite_cg (
  rfl) (
  (l_aload_n (show gPG 115 43 = some (.aload_n 0) by decide +kernel) rfl jr_ref).trans <|
  (l_gR (show gPG 115 44 = some (.getfield 25) by decide +kernel) (kd := 7) (sl := 2) (tc := 1) (fin := 0) (z := 0) (by decide +kernel) (by decide +kernel) (by decide +kernel)).trans <| bd_cg fun w3 hw3 =>
  (l_aload_n (show gPG 115 47 = some (.aload_n 0) by decide +kernel) rfl jr_ref).trans <|
  (l_gI (show gPG 115 48 = some (.getfield 66) by decide +kernel) (kd := 7) (sl := 7) (tc := 0) (fin := 0) (z := 0) (by decide +kernel) (by decide +kernel) (by decide +kernel)).trans <| bd_cg fun x4 hx4 =>
  (l_aload_n (show gPG 115 51 = some (.aload_n 0) by decide +kernel) rfl jr_ref).trans <|
  (l_gR (show gPG 115 52 = some (.getfield 31) by decide +kernel) (kd := 7) (sl := 4) (tc := 1) (fin := 0) (z := 0) (by decide +kernel) (by decide +kernel) (by decide +kernel)).trans <| bd_cg fun w5 hw5 =>
  (l_aload_n (show gPG 115 55 = some (.aload_n 0) by decide +kernel) rfl jr_ref).trans <|
  (l_gI (show gPG 115 56 = some (.getfield 72) by decide +kernel) (kd := 7) (sl := 9) (tc := 0) (fin := 0) (z := 0) (by decide +kernel) (by decide +kernel) (by decide +kernel)).trans <| bd_cg fun x6 hx6 =>
  l_callV (u := 1) (v := w3) (as := [.int x4, w5, .int x6]) (show gPG 115 59 = some (jinvI 1 81) by decide +kernel) (by decide) (cc := 106) (na := 4) (kd := 6) (q4 := 0) (z := 11) (rest := []) (by decide +kernel) (by decide +kernel)  rfl (show (4 : Nat) ≤ 4 by decide) rfl cs0 (by decide +kernel) (cai (cav (jr_gR hw5) (cai (cav (jr_gR hw3) ca0)))))) (
  rfl)
theorem b115_62 (d : Nat) (μ : jM) (a : Nat) (i1 : Int32) (i2 : Int32) (s0 : Int32) : jR d 115 62 [.ref a, .int i1, .int i2] [.int s0] μ = (if s0 = 0 then jR d 115 65 [.ref a, .int i1, .int i2] [] μ else jR d 115 91 [.ref a, .int i1, .int i2] [] μ) :=
  (l_cmp0 (show gPG 115 62 = some (.ifCond .ne 29) by decide +kernel) (t := 91) (by decide +kernel)).trans <| jm_ne.trans <| ite_cg (
  rfl) (
  rfl)
theorem b115_65 (d : Nat) (μ : jM) (a : Nat) (i1 : Int32) (i2 : Int32) : jR (d + 1) 115 65 [.ref a, .int i1, .int i2] [] μ = (jgR μ 7 0 (.ref a)).bind fun w1 => (jgI μ 6 0 w1).bind fun x2 => (if x2 < 8 then (jgR μ 7 0 (.ref a)).bind fun w3 => (jgI μ 7 6 (.ref a)).bind fun x4 => (if jrecv μ 6 w3 = true then (jC d 93 [w3, .int i1, .int x4] μ).bind fun p5 => jR (d + 1) 115 91 [.ref a, .int i1, .int i2] (p5.1.toList ++ []) p5.2 else none) else some (some (.int 0), μ)) :=
  (l_aload_n (show gPG 115 65 = some (.aload_n 0) by decide +kernel) rfl jr_ref).trans <|
  (l_gR (show gPG 115 66 = some (.getfield 12) by decide +kernel) (kd := 7) (sl := 0) (tc := 1) (fin := 1) (z := 0) (by decide +kernel) (by decide +kernel) (by decide +kernel)).trans <| bd_cg fun w1 hw1 =>
  (l_gI (show gPG 115 69 = some (.getfield 38) by decide +kernel) (kd := 6) (sl := 0) (tc := 0) (fin := 0) (z := 1) (by decide +kernel) (by decide +kernel) (by decide +kernel)).trans <| bd_cg fun x2 hx2 =>
  (l_bipush (show gPG 115 72 = some (.bipush 8) by decide +kernel) (c := 8) (by decide +kernel)).trans <|
  (l_cmp (show gPG 115 74 = some (.if_icmp .lt 5) by decide +kernel) (t := 79) (by decide +kernel)).trans <| jm_lt.trans <| ite_cg (
  (l_aload_n (show gPG 115 79 = some (.aload_n 0) by decide +kernel) rfl jr_ref).trans <|
  (l_gR (show gPG 115 80 = some (.getfield 12) by decide +kernel) (kd := 7) (sl := 0) (tc := 1) (fin := 1) (z := 0) (by decide +kernel) (by decide +kernel) (by decide +kernel)).trans <| bd_cg fun w3 hw3 =>
  (l_iload_n (show gPG 115 83 = some (.iload_n 1) by decide +kernel) rfl).trans <|
  (l_aload_n (show gPG 115 84 = some (.aload_n 0) by decide +kernel) rfl jr_ref).trans <|
  (l_gI (show gPG 115 85 = some (.getfield 63) by decide +kernel) (kd := 7) (sl := 6) (tc := 0) (fin := 0) (z := 0) (by decide +kernel) (by decide +kernel) (by decide +kernel)).trans <| bd_cg fun x4 hx4 =>
  l_callV (u := 1) (v := w3) (as := [.int i1, .int x4]) (show gPG 115 88 = some (jinvI 1 85) by decide +kernel) (by decide) (cc := 93) (na := 3) (kd := 6) (q4 := 0) (z := 11) (rest := []) (by decide +kernel) (by decide +kernel)  rfl (show (3 : Nat) ≤ 3 by decide) rfl cs0 (by decide +kernel) (cai (cai (cav (jr_gR hw3) ca0)))) (
  (l_iconst (show gPG 115 77 = some (.iconst 0) by decide +kernel) (c := 0) (by decide +kernel)).trans <|
  l_iretK (show gPG 115 78 = some (.ireturn) by decide +kernel) (by decide +kernel))
theorem b115_91 (d : Nat) (μ : jM) (a : Nat) (i1 : Int32) (i2 : Int32) : jR (d + 1) 115 91 [.ref a, .int i1, .int i2] [] μ = (jgR μ 7 0 (.ref a)).bind fun w1 => (jgI μ 7 6 (.ref a)).bind fun x2 => (if jrecv μ 6 w1 = true then (jC d 92 [w1, .int x2] μ).bind fun p3 => jR (d + 1) 115 103 [.ref a, .int i1, .int i2] (p3.1.toList ++ [.ref a]) p3.2 else none) :=
  (l_aload_n (show gPG 115 91 = some (.aload_n 0) by decide +kernel) rfl jr_ref).trans <|
  (l_aload_n (show gPG 115 92 = some (.aload_n 0) by decide +kernel) rfl jr_ref).trans <|
  (l_gR (show gPG 115 93 = some (.getfield 12) by decide +kernel) (kd := 7) (sl := 0) (tc := 1) (fin := 1) (z := 0) (by decide +kernel) (by decide +kernel) (by decide +kernel)).trans <| bd_cg fun w1 hw1 =>
  (l_aload_n (show gPG 115 96 = some (.aload_n 0) by decide +kernel) rfl jr_ref).trans <|
  (l_gI (show gPG 115 97 = some (.getfield 63) by decide +kernel) (kd := 7) (sl := 6) (tc := 0) (fin := 0) (z := 0) (by decide +kernel) (by decide +kernel) (by decide +kernel)).trans <| bd_cg fun x2 hx2 =>
  l_callV (u := 1) (v := w1) (as := [.int x2]) (show gPG 115 100 = some (jinvI 1 52) by decide +kernel) (by decide) (cc := 92) (na := 2) (kd := 6) (q4 := 0) (z := 11) (rest := [.ref a]) (by decide +kernel) (by decide +kernel)  rfl (show (2 : Nat) ≤ 3 by decide) rfl (csv jr_ref cs0) (by decide +kernel) (cai (cav (jr_gR hw1) ca0))
theorem b115_103 (d : Nat) (μ : jM) (a : Nat) (i1 : Int32) (i2 : Int32) (s0 : Value) (s1 : Int32) (hs0 : jisref s0 = true) : jR d 115 103 [.ref a, .int i1, .int i2] [.int s1, s0] μ = (jpI μ 7 10 0 s0 s1).bind fun m1 => (jgI m1 7 10 (.ref a)).bind fun x2 => (if x2 = (-1) then jR d 115 124 [.ref a, .int i1, .int i2] [.int i1] m1 else (jgI m1 7 10 (.ref a)).bind fun x3 => jR d 115 124 [.ref a, .int i1, .int i2] [.int (x3 + 1)] m1) :=
  (l_pI (show gPG 115 103 = some (.putfield 75) by decide +kernel) (kd := 7) (sl := 10) (tc := 0) (fin := 0) (z := 0) (by decide +kernel) (by decide +kernel) (by decide +kernel)).trans <| bd_cg fun m1 hm1 =>
  (l_aload_n (show gPG 115 106 = some (.aload_n 0) by decide +kernel) rfl jr_ref).trans <|
  (l_gI (show gPG 115 107 = some (.getfield 75) by decide +kernel) (kd := 7) (sl := 10) (tc := 0) (fin := 0) (z := 0) (by decide +kernel) (by decide +kernel) (by decide +kernel)).trans <| bd_cg fun x2 hx2 =>
  (l_iconst (show gPG 115 110 = some (.iconst (-1)) by decide +kernel) (c := (-1)) (by decide +kernel)).trans <|
  (l_cmp (show gPG 115 111 = some (.if_icmp .ne 7) by decide +kernel) (t := 118) (by decide +kernel)).trans <| jm_ne.trans <| ite_cg (
  (l_iload_n (show gPG 115 114 = some (.iload_n 1) by decide +kernel) rfl).trans <|
  l_goto (show gPG 115 115 = some (.goto 9) by decide +kernel) (t := 124) (by decide +kernel)) (
  (l_aload_n (show gPG 115 118 = some (.aload_n 0) by decide +kernel) rfl jr_ref).trans <|
  (l_gI (show gPG 115 119 = some (.getfield 75) by decide +kernel) (kd := 7) (sl := 10) (tc := 0) (fin := 0) (z := 0) (by decide +kernel) (by decide +kernel) (by decide +kernel)).trans <| bd_cg fun x3 hx3 =>
  (l_iconst (show gPG 115 122 = some (.iconst 1) by decide +kernel) (c := 1) (by decide +kernel)).trans <|
  l_iadd (show gPG 115 123 = some (.iadd) by decide +kernel) )
theorem b115_124 (d : Nat) (μ : jM) (a : Nat) (u1 : Value) (i2 : Int32) (s0 : Int32) : jR d 115 124 [.ref a, u1, .int i2] [.int s0] μ = jR d 115 4 [.ref a, .int s0, .int (i2 + 1)] [] μ :=
  (l_istore_n (show gPG 115 124 = some (.istore_n 1) by decide +kernel) (ls := [.ref a, u1, .int i2]) (show (1 : Nat) < 3 by decide) (show _ = ([.ref a, .int s0, .int i2] : List Value) from rfl)).trans <|
  (l_iinc (show gPG 115 125 = some (.iinc 2 1) by decide +kernel) (c := 1) (by decide +kernel) rfl (show _ = ([.ref a, .int s0, .int (i2 + 1)] : List Value) from rfl)).trans <|
  l_goto (show gPG 115 128 = some (.goto (-124)) by decide +kernel) (t := 4) (by decide +kernel)
-- Merging.mergeRow
theorem b116_0 (d : Nat) (μ : jM) (a : Nat) : jR d 116 0 [.ref a, .retAddr 0] [] μ = (jgI μ 7 8 (.ref a)).bind fun x1 => (if x1 = (-1) then jR d 116 16 [.ref a, .retAddr 0] [] μ else (jgI μ 7 9 (.ref a)).bind fun x2 => (if x2 = (-1) then jR d 116 16 [.ref a, .retAddr 0] [] μ else jR d 116 89 [.ref a, .int 0] [] μ)) :=
  (l_aload_n (show gPG 116 0 = some (.aload_n 0) by decide +kernel) rfl jr_ref).trans <|
  (l_gI (show gPG 116 1 = some (.getfield 69) by decide +kernel) (kd := 7) (sl := 8) (tc := 0) (fin := 0) (z := 0) (by decide +kernel) (by decide +kernel) (by decide +kernel)).trans <| bd_cg fun x1 hx1 =>
  (l_iconst (show gPG 116 4 = some (.iconst (-1)) by decide +kernel) (c := (-1)) (by decide +kernel)).trans <|
  (l_cmp (show gPG 116 5 = some (.if_icmp .eq 11) by decide +kernel) (t := 16) (by decide +kernel)).trans <| jm_eq.trans <| ite_cg (
  rfl) (
  (l_aload_n (show gPG 116 8 = some (.aload_n 0) by decide +kernel) rfl jr_ref).trans <|
  (l_gI (show gPG 116 9 = some (.getfield 72) by decide +kernel) (kd := 7) (sl := 9) (tc := 0) (fin := 0) (z := 0) (by decide +kernel) (by decide +kernel) (by decide +kernel)).trans <| bd_cg fun x2 hx2 =>
  (l_iconst (show gPG 116 12 = some (.iconst (-1)) by decide +kernel) (c := (-1)) (by decide +kernel)).trans <|
  (l_cmp (show gPG 116 13 = some (.if_icmp .ne 74) by decide +kernel) (t := 87) (by decide +kernel)).trans <| jm_ne.trans <| ite_cg (
  rfl) (
  (l_iconst (show gPG 116 87 = some (.iconst 0) by decide +kernel) (c := 0) (by decide +kernel)).trans <|
  l_istore_n (show gPG 116 88 = some (.istore_n 1) by decide +kernel) (ls := [.ref a, .retAddr 0]) (show (1 : Nat) < 2 by decide) (show _ = ([.ref a, .int 0] : List Value) from rfl)))
theorem b116_16 (d : Nat) (μ : jM) (a : Nat) (u1 : Value) : jR (d + 1) 116 16 [.ref a, u1] [] μ = (jgI μ 7 8 (.ref a)).bind fun x1 => (if x1 = (-1) then (jgR μ 7 0 (.ref a)).bind fun w7 => (jgR μ 7 4 (.ref a)).bind fun w8 => (jgI μ 7 9 (.ref a)).bind fun x9 => (jgI μ 7 10 (.ref a)).bind fun x10 => (if jrecv μ 6 w7 = true then (jC d 108 [w7, w8, .int x9, .int x10] μ).bind fun p11 => jR (d + 1) 116 43 [.ref a, u1] (p11.1.toList ++ []) p11.2 else none) else (jgR μ 7 0 (.ref a)).bind fun w2 => (jgR μ 7 3 (.ref a)).bind fun w3 => (jgI μ 7 8 (.ref a)).bind fun x4 => (jgI μ 7 10 (.ref a)).bind fun x5 => (if jrecv μ 6 w2 = true then (jC d 108 [w2, w3, .int x4, .int x5] μ).bind fun p6 => jR (d + 1) 116 65 [.ref a, u1] (p6.1.toList ++ []) p6.2 else none)) :=
  (l_aload_n (show gPG 116 16 = some (.aload_n 0) by decide +kernel) rfl jr_ref).trans <|
  (l_gI (show gPG 116 17 = some (.getfield 69) by decide +kernel) (kd := 7) (sl := 8) (tc := 0) (fin := 0) (z := 0) (by decide +kernel) (by decide +kernel) (by decide +kernel)).trans <| bd_cg fun x1 hx1 =>
  (l_iconst (show gPG 116 20 = some (.iconst (-1)) by decide +kernel) (c := (-1)) (by decide +kernel)).trans <|
  (l_cmp (show gPG 116 21 = some (.if_icmp .ne 25) by decide +kernel) (t := 46) (by decide +kernel)).trans <| jm_ne.trans <| ite_cg (
  (l_aload_n (show gPG 116 24 = some (.aload_n 0) by decide +kernel) rfl jr_ref).trans <|
  (l_gR (show gPG 116 25 = some (.getfield 12) by decide +kernel) (kd := 7) (sl := 0) (tc := 1) (fin := 1) (z := 0) (by decide +kernel) (by decide +kernel) (by decide +kernel)).trans <| bd_cg fun w7 hw7 =>
  (l_aload_n (show gPG 116 28 = some (.aload_n 0) by decide +kernel) rfl jr_ref).trans <|
  (l_gR (show gPG 116 29 = some (.getfield 31) by decide +kernel) (kd := 7) (sl := 4) (tc := 1) (fin := 0) (z := 0) (by decide +kernel) (by decide +kernel) (by decide +kernel)).trans <| bd_cg fun w8 hw8 =>
  (l_aload_n (show gPG 116 32 = some (.aload_n 0) by decide +kernel) rfl jr_ref).trans <|
  (l_gI (show gPG 116 33 = some (.getfield 72) by decide +kernel) (kd := 7) (sl := 9) (tc := 0) (fin := 0) (z := 0) (by decide +kernel) (by decide +kernel) (by decide +kernel)).trans <| bd_cg fun x9 hx9 =>
  (l_aload_n (show gPG 116 36 = some (.aload_n 0) by decide +kernel) rfl jr_ref).trans <|
  (l_gI (show gPG 116 37 = some (.getfield 75) by decide +kernel) (kd := 7) (sl := 10) (tc := 0) (fin := 0) (z := 0) (by decide +kernel) (by decide +kernel) (by decide +kernel)).trans <| bd_cg fun x10 hx10 =>
  l_callV (u := 1) (v := w7) (as := [w8, .int x9, .int x10]) (show gPG 116 40 = some (jinvI 1 89) by decide +kernel) (by decide) (cc := 108) (na := 4) (kd := 6) (q4 := 0) (z := 11) (rest := []) (by decide +kernel) (by decide +kernel)  rfl (show (4 : Nat) ≤ 4 by decide) rfl cs0 (by decide +kernel) (cai (cai (cav (jr_gR hw8) (cav (jr_gR hw7) ca0))))) (
  (l_aload_n (show gPG 116 46 = some (.aload_n 0) by decide +kernel) rfl jr_ref).trans <|
  (l_gR (show gPG 116 47 = some (.getfield 12) by decide +kernel) (kd := 7) (sl := 0) (tc := 1) (fin := 1) (z := 0) (by decide +kernel) (by decide +kernel) (by decide +kernel)).trans <| bd_cg fun w2 hw2 =>
  (l_aload_n (show gPG 116 50 = some (.aload_n 0) by decide +kernel) rfl jr_ref).trans <|
  (l_gR (show gPG 116 51 = some (.getfield 28) by decide +kernel) (kd := 7) (sl := 3) (tc := 1) (fin := 0) (z := 0) (by decide +kernel) (by decide +kernel) (by decide +kernel)).trans <| bd_cg fun w3 hw3 =>
  (l_aload_n (show gPG 116 54 = some (.aload_n 0) by decide +kernel) rfl jr_ref).trans <|
  (l_gI (show gPG 116 55 = some (.getfield 69) by decide +kernel) (kd := 7) (sl := 8) (tc := 0) (fin := 0) (z := 0) (by decide +kernel) (by decide +kernel) (by decide +kernel)).trans <| bd_cg fun x4 hx4 =>
  (l_aload_n (show gPG 116 58 = some (.aload_n 0) by decide +kernel) rfl jr_ref).trans <|
  (l_gI (show gPG 116 59 = some (.getfield 75) by decide +kernel) (kd := 7) (sl := 10) (tc := 0) (fin := 0) (z := 0) (by decide +kernel) (by decide +kernel) (by decide +kernel)).trans <| bd_cg fun x5 hx5 =>
  l_callV (u := 1) (v := w2) (as := [w3, .int x4, .int x5]) (show gPG 116 62 = some (jinvI 1 89) by decide +kernel) (by decide) (cc := 108) (na := 4) (kd := 6) (q4 := 0) (z := 11) (rest := []) (by decide +kernel) (by decide +kernel)  rfl (show (4 : Nat) ≤ 4 by decide) rfl cs0 (by decide +kernel) (cai (cai (cav (jr_gR hw3) (cav (jr_gR hw2) ca0)))))
theorem b116_43 (d : Nat) (μ : jM) (a : Nat) (u1 : Value) : jR d 116 43 [.ref a, u1] [] μ = jR d 116 65 [.ref a, u1] [] μ :=
  l_goto (show gPG 116 43 = some (.goto 22) by decide +kernel) (t := 65) (by decide +kernel)
theorem b116_65 (d : Nat) (μ : jM) (a : Nat) (u1 : Value) : jR (d + 1) 116 65 [.ref a, u1] [] μ = (jgI μ 7 7 (.ref a)).bind fun x1 => (if x1 = (-1) then jR (d + 1) 116 86 [.ref a, u1] [] μ else (jgR μ 7 1 (.ref a)).bind fun w2 => (jgI μ 7 6 (.ref a)).bind fun x3 => (if jrecv μ 4 w2 = true then (jC d 76 [w2, .int 2, .int x3, .int (-1)] μ).bind fun p4 => jR (d + 1) 116 86 [.ref a, u1] (p4.1.toList ++ []) p4.2 else none)) :=
  (l_aload_n (show gPG 116 65 = some (.aload_n 0) by decide +kernel) rfl jr_ref).trans <|
  (l_gI (show gPG 116 66 = some (.getfield 66) by decide +kernel) (kd := 7) (sl := 7) (tc := 0) (fin := 0) (z := 0) (by decide +kernel) (by decide +kernel) (by decide +kernel)).trans <| bd_cg fun x1 hx1 =>
  (l_iconst (show gPG 116 69 = some (.iconst (-1)) by decide +kernel) (c := (-1)) (by decide +kernel)).trans <|
  (l_cmp (show gPG 116 70 = some (.if_icmp .eq 16) by decide +kernel) (t := 86) (by decide +kernel)).trans <| jm_eq.trans <| ite_cg (
  rfl) (
  (l_aload_n (show gPG 116 73 = some (.aload_n 0) by decide +kernel) rfl jr_ref).trans <|
  (l_gR (show gPG 116 74 = some (.getfield 21) by decide +kernel) (kd := 7) (sl := 1) (tc := 1) (fin := 1) (z := 0) (by decide +kernel) (by decide +kernel) (by decide +kernel)).trans <| bd_cg fun w2 hw2 =>
  (l_iconst (show gPG 116 77 = some (.iconst 2) by decide +kernel) (c := 2) (by decide +kernel)).trans <|
  (l_aload_n (show gPG 116 78 = some (.aload_n 0) by decide +kernel) rfl jr_ref).trans <|
  (l_gI (show gPG 116 79 = some (.getfield 63) by decide +kernel) (kd := 7) (sl := 6) (tc := 0) (fin := 0) (z := 0) (by decide +kernel) (by decide +kernel) (by decide +kernel)).trans <| bd_cg fun x3 hx3 =>
  (l_iconst (show gPG 116 82 = some (.iconst (-1)) by decide +kernel) (c := (-1)) (by decide +kernel)).trans <|
  l_callV (u := 1) (v := w2) (as := [.int 2, .int x3, .int (-1)]) (show gPG 116 83 = some (jinvI 1 93) by decide +kernel) (by decide) (cc := 76) (na := 4) (kd := 4) (q4 := 0) (z := 11) (rest := []) (by decide +kernel) (by decide +kernel)  rfl (show (4 : Nat) ≤ 4 by decide) rfl cs0 (by decide +kernel) (cai (cai (cai (cav (jr_gR hw2) ca0)))))
theorem b116_86 (d : Nat) (μ : jM) (u0 : Value) (u1 : Value) : jR d 116 86 [u0, u1] [] μ = some (none, μ) :=
  l_ret (show gPG 116 86 = some (.return_) by decide +kernel) (by decide +kernel)
theorem b116_89 (d : Nat) (μ : jM) (a : Nat) (i1 : Int32) : jR (d + 1) 116 89 [.ref a, .int i1] [] μ = (if i1 < 3 then (if jrecv μ 7 (.ref a) = true then (jC d 117 [.ref a, .int i1] μ).bind fun p1 => jR (d + 1) 116 99 [.ref a, .int i1] (p1.1.toList ++ []) p1.2 else none) else some (none, μ)) :=
  (l_iload_n (show gPG 116 89 = some (.iload_n 1) by decide +kernel) rfl).trans <|
  (l_iconst (show gPG 116 90 = some (.iconst 3) by decide +kernel) (c := 3) (by decide +kernel)).trans <|
  (l_cmp (show gPG 116 91 = some (.if_icmp .ge 19) by decide +kernel) (t := 110) (by decide +kernel)).trans <| jm_ge.trans <| ite_cg (
  (l_aload_n (show gPG 116 94 = some (.aload_n 0) by decide +kernel) rfl jr_ref).trans <|
  (l_iload_n (show gPG 116 95 = some (.iload_n 1) by decide +kernel) rfl).trans <|
  l_callV (u := 1) (v := .ref a) (as := [.int i1]) (show gPG 116 96 = some (jinvI 1 97) by decide +kernel) (by decide) (cc := 117) (na := 2) (kd := 7) (q4 := 0) (z := 10) (rest := []) (by decide +kernel) (by decide +kernel)  rfl (show (2 : Nat) ≤ 2 by decide) rfl cs0 (by decide +kernel) (cai (cav jr_ref ca0))) (
  l_ret (show gPG 116 110 = some (.return_) by decide +kernel) (by decide +kernel))
theorem b116_99 (d : Nat) (μ : jM) (a : Nat) (i1 : Int32) : jR (d + 1) 116 99 [.ref a, .int i1] [] μ = (if jrecv μ 7 (.ref a) = true then (jC d 120 [.ref a, .int i1] μ).bind fun p1 => jR (d + 1) 116 104 [.ref a, .int i1] (p1.1.toList ++ []) p1.2 else none) :=
  (l_aload_n (show gPG 116 99 = some (.aload_n 0) by decide +kernel) rfl jr_ref).trans <|
  (l_iload_n (show gPG 116 100 = some (.iload_n 1) by decide +kernel) rfl).trans <|
  l_callV (u := 1) (v := .ref a) (as := [.int i1]) (show gPG 116 101 = some (jinvI 1 100) by decide +kernel) (by decide) (cc := 120) (na := 2) (kd := 7) (q4 := 0) (z := 10) (rest := []) (by decide +kernel) (by decide +kernel)  rfl (show (2 : Nat) ≤ 2 by decide) rfl cs0 (by decide +kernel) (cai (cav jr_ref ca0))
theorem b116_104 (d : Nat) (μ : jM) (a : Nat) (i1 : Int32) : jR d 116 104 [.ref a, .int i1] [] μ = jR d 116 89 [.ref a, .int (i1 + 1)] [] μ :=
  (l_iinc (show gPG 116 104 = some (.iinc 1 1) by decide +kernel) (c := 1) (by decide +kernel) rfl (show _ = ([.ref a, .int (i1 + 1)] : List Value) from rfl)).trans <|
  l_goto (show gPG 116 107 = some (.goto (-18)) by decide +kernel) (t := 89) (by decide +kernel)
-- Merging.mergeContent
theorem b117_0 (d : Nat) (μ : jM) (a : Nat) (i1 : Int32) : jR (d + 1) 117 0 [.ref a, .int i1] [] μ = (jgR μ 7 3 (.ref a)).bind fun w1 => (jgI μ 7 8 (.ref a)).bind fun x2 => (jgR μ 7 4 (.ref a)).bind fun w3 => (jgI μ 7 9 (.ref a)).bind fun x4 => (if jrecv μ 6 w1 = true then (jC d 107 [w1, .int x2, .int i1, w3, .int x4] μ).bind fun p5 => jR (d + 1) 117 20 [.ref a, .int i1] (p5.1.toList ++ []) p5.2 else none) :=
  (l_aload_n (show gPG 117 0 = some (.aload_n 0) by decide +kernel) rfl jr_ref).trans <|
  (l_gR (show gPG 117 1 = some (.getfield 28) by decide +kernel) (kd := 7) (sl := 3) (tc := 1) (fin := 0) (z := 0) (by decide +kernel) (by decide +kernel) (by decide +kernel)).trans <| bd_cg fun w1 hw1 =>
  (l_aload_n (show gPG 117 4 = some (.aload_n 0) by decide +kernel) rfl jr_ref).trans <|
  (l_gI (show gPG 117 5 = some (.getfield 69) by decide +kernel) (kd := 7) (sl := 8) (tc := 0) (fin := 0) (z := 0) (by decide +kernel) (by decide +kernel) (by decide +kernel)).trans <| bd_cg fun x2 hx2 =>
  (l_iload_n (show gPG 117 8 = some (.iload_n 1) by decide +kernel) rfl).trans <|
  (l_aload_n (show gPG 117 9 = some (.aload_n 0) by decide +kernel) rfl jr_ref).trans <|
  (l_gR (show gPG 117 10 = some (.getfield 31) by decide +kernel) (kd := 7) (sl := 4) (tc := 1) (fin := 0) (z := 0) (by decide +kernel) (by decide +kernel) (by decide +kernel)).trans <| bd_cg fun w3 hw3 =>
  (l_aload_n (show gPG 117 13 = some (.aload_n 0) by decide +kernel) rfl jr_ref).trans <|
  (l_gI (show gPG 117 14 = some (.getfield 72) by decide +kernel) (kd := 7) (sl := 9) (tc := 0) (fin := 0) (z := 0) (by decide +kernel) (by decide +kernel) (by decide +kernel)).trans <| bd_cg fun x4 hx4 =>
  l_callV (u := 1) (v := w1) (as := [.int x2, .int i1, w3, .int x4]) (show gPG 117 17 = some (jinvI 1 103) by decide +kernel) (by decide) (cc := 107) (na := 5) (kd := 6) (q4 := 0) (z := 11) (rest := []) (by decide +kernel) (by decide +kernel)  rfl (show (5 : Nat) ≤ 5 by decide) rfl cs0 (by decide +kernel) (cai (cav (jr_gR hw3) (cai (cai (cav (jr_gR hw1) ca0)))))
theorem b117_20 (d : Nat) (μ : jM) (a : Nat) (i1 : Int32) (s0 : Int32) : jR (d + 1) 117 20 [.ref a, .int i1] [.int s0] μ = (if s0 = 0 then (jgR μ 7 2 (.ref a)).bind fun w1 => (jgI μ 7 7 (.ref a)).bind fun x2 => (jgR μ 7 4 (.ref a)).bind fun w3 => (jgI μ 7 9 (.ref a)).bind fun x4 => (if jrecv μ 6 w1 = true then (jC d 107 [w1, .int x2, .int i1, w3, .int x4] μ).bind fun p5 => jR (d + 1) 117 43 [.ref a, .int i1] (p5.1.toList ++ []) p5.2 else none) else jR (d + 1) 117 46 [.ref a, .int i1] [] μ) :=
  (l_cmp0 (show gPG 117 20 = some (.ifCond .ne 26) by decide +kernel) (t := 46) (by decide +kernel)).trans <| jm_ne.trans <| ite_cg (
  (l_aload_n (show gPG 117 23 = some (.aload_n 0) by decide +kernel) rfl jr_ref).trans <|
  (l_gR (show gPG 117 24 = some (.getfield 25) by decide +kernel) (kd := 7) (sl := 2) (tc := 1) (fin := 0) (z := 0) (by decide +kernel) (by decide +kernel) (by decide +kernel)).trans <| bd_cg fun w1 hw1 =>
  (l_aload_n (show gPG 117 27 = some (.aload_n 0) by decide +kernel) rfl jr_ref).trans <|
  (l_gI (show gPG 117 28 = some (.getfield 66) by decide +kernel) (kd := 7) (sl := 7) (tc := 0) (fin := 0) (z := 0) (by decide +kernel) (by decide +kernel) (by decide +kernel)).trans <| bd_cg fun x2 hx2 =>
  (l_iload_n (show gPG 117 31 = some (.iload_n 1) by decide +kernel) rfl).trans <|
  (l_aload_n (show gPG 117 32 = some (.aload_n 0) by decide +kernel) rfl jr_ref).trans <|
  (l_gR (show gPG 117 33 = some (.getfield 31) by decide +kernel) (kd := 7) (sl := 4) (tc := 1) (fin := 0) (z := 0) (by decide +kernel) (by decide +kernel) (by decide +kernel)).trans <| bd_cg fun w3 hw3 =>
  (l_aload_n (show gPG 117 36 = some (.aload_n 0) by decide +kernel) rfl jr_ref).trans <|
  (l_gI (show gPG 117 37 = some (.getfield 72) by decide +kernel) (kd := 7) (sl := 9) (tc := 0) (fin := 0) (z := 0) (by decide +kernel) (by decide +kernel) (by decide +kernel)).trans <| bd_cg fun x4 hx4 =>
  l_callV (u := 1) (v := w1) (as := [.int x2, .int i1, w3, .int x4]) (show gPG 117 40 = some (jinvI 1 103) by decide +kernel) (by decide) (cc := 107) (na := 5) (kd := 6) (q4 := 0) (z := 11) (rest := []) (by decide +kernel) (by decide +kernel)  rfl (show (5 : Nat) ≤ 5 by decide) rfl cs0 (by decide +kernel) (cai (cav (jr_gR hw3) (cai (cai (cav (jr_gR hw1) ca0)))))) (
  rfl)
theorem b117_43 (d : Nat) (μ : jM) (a : Nat) (i1 : Int32) (s0 : Int32) : jR (d + 1) 117 43 [.ref a, .int i1] [.int s0] μ = (if s0 = 0 then (jgR μ 7 2 (.ref a)).bind fun w1 => (jgI μ 7 7 (.ref a)).bind fun x2 => (jgR μ 7 3 (.ref a)).bind fun w3 => (jgI μ 7 8 (.ref a)).bind fun x4 => (if jrecv μ 6 w1 = true then (jC d 107 [w1, .int x2, .int i1, w3, .int x4] μ).bind fun p5 => jR (d + 1) 117 89 [.ref a, .int i1] (p5.1.toList ++ []) p5.2 else none) else jR (d + 1) 117 46 [.ref a, .int i1] [] μ) :=
  (l_cmp0 (show gPG 117 43 = some (.ifCond .eq 26) by decide +kernel) (t := 69) (by decide +kernel)).trans <| jm_eq.trans <| ite_cg (
  (l_aload_n (show gPG 117 69 = some (.aload_n 0) by decide +kernel) rfl jr_ref).trans <|
  (l_gR (show gPG 117 70 = some (.getfield 25) by decide +kernel) (kd := 7) (sl := 2) (tc := 1) (fin := 0) (z := 0) (by decide +kernel) (by decide +kernel) (by decide +kernel)).trans <| bd_cg fun w1 hw1 =>
  (l_aload_n (show gPG 117 73 = some (.aload_n 0) by decide +kernel) rfl jr_ref).trans <|
  (l_gI (show gPG 117 74 = some (.getfield 66) by decide +kernel) (kd := 7) (sl := 7) (tc := 0) (fin := 0) (z := 0) (by decide +kernel) (by decide +kernel) (by decide +kernel)).trans <| bd_cg fun x2 hx2 =>
  (l_iload_n (show gPG 117 77 = some (.iload_n 1) by decide +kernel) rfl).trans <|
  (l_aload_n (show gPG 117 78 = some (.aload_n 0) by decide +kernel) rfl jr_ref).trans <|
  (l_gR (show gPG 117 79 = some (.getfield 28) by decide +kernel) (kd := 7) (sl := 3) (tc := 1) (fin := 0) (z := 0) (by decide +kernel) (by decide +kernel) (by decide +kernel)).trans <| bd_cg fun w3 hw3 =>
  (l_aload_n (show gPG 117 82 = some (.aload_n 0) by decide +kernel) rfl jr_ref).trans <|
  (l_gI (show gPG 117 83 = some (.getfield 69) by decide +kernel) (kd := 7) (sl := 8) (tc := 0) (fin := 0) (z := 0) (by decide +kernel) (by decide +kernel) (by decide +kernel)).trans <| bd_cg fun x4 hx4 =>
  l_callV (u := 1) (v := w1) (as := [.int x2, .int i1, w3, .int x4]) (show gPG 117 86 = some (jinvI 1 103) by decide +kernel) (by decide) (cc := 107) (na := 5) (kd := 6) (q4 := 0) (z := 11) (rest := []) (by decide +kernel) (by decide +kernel)  rfl (show (5 : Nat) ≤ 5 by decide) rfl cs0 (by decide +kernel) (cai (cav (jr_gR hw3) (cai (cai (cav (jr_gR hw1) ca0)))))) (
  rfl)
theorem b117_46 (d : Nat) (μ : jM) (a : Nat) (i1 : Int32) : jR (d + 1) 117 46 [.ref a, .int i1] [] μ = (jgR μ 7 0 (.ref a)).bind fun w1 => (jgR μ 7 3 (.ref a)).bind fun w2 => (jgI μ 7 8 (.ref a)).bind fun x3 => (jgI μ 7 10 (.ref a)).bind fun x4 => (if jrecv μ 6 w1 = true then (jC d 109 [w1, w2, .int x3, .int x4, .int i1] μ).bind fun p5 => jR (d + 1) 117 66 [.ref a, .int i1] (p5.1.toList ++ []) p5.2 else none) :=
  (l_aload_n (show gPG 117 46 = some (.aload_n 0) by decide +kernel) rfl jr_ref).trans <|
  (l_gR (show gPG 117 47 = some (.getfield 12) by decide +kernel) (kd := 7) (sl := 0) (tc := 1) (fin := 1) (z := 0) (by decide +kernel) (by decide +kernel) (by decide +kernel)).trans <| bd_cg fun w1 hw1 =>
  (l_aload_n (show gPG 117 50 = some (.aload_n 0) by decide +kernel) rfl jr_ref).trans <|
  (l_gR (show gPG 117 51 = some (.getfield 28) by decide +kernel) (kd := 7) (sl := 3) (tc := 1) (fin := 0) (z := 0) (by decide +kernel) (by decide +kernel) (by decide +kernel)).trans <| bd_cg fun w2 hw2 =>
  (l_aload_n (show gPG 117 54 = some (.aload_n 0) by decide +kernel) rfl jr_ref).trans <|
  (l_gI (show gPG 117 55 = some (.getfield 69) by decide +kernel) (kd := 7) (sl := 8) (tc := 0) (fin := 0) (z := 0) (by decide +kernel) (by decide +kernel) (by decide +kernel)).trans <| bd_cg fun x3 hx3 =>
  (l_aload_n (show gPG 117 58 = some (.aload_n 0) by decide +kernel) rfl jr_ref).trans <|
  (l_gI (show gPG 117 59 = some (.getfield 75) by decide +kernel) (kd := 7) (sl := 10) (tc := 0) (fin := 0) (z := 0) (by decide +kernel) (by decide +kernel) (by decide +kernel)).trans <| bd_cg fun x4 hx4 =>
  (l_iload_n (show gPG 117 62 = some (.iload_n 1) by decide +kernel) rfl).trans <|
  l_callV (u := 1) (v := w1) (as := [w2, .int x3, .int x4, .int i1]) (show gPG 117 63 = some (jinvI 1 107) by decide +kernel) (by decide) (cc := 109) (na := 5) (kd := 6) (q4 := 0) (z := 11) (rest := []) (by decide +kernel) (by decide +kernel)  rfl (show (5 : Nat) ≤ 5 by decide) rfl cs0 (by decide +kernel) (cai (cai (cai (cav (jr_gR hw2) (cav (jr_gR hw1) ca0)))))
theorem b117_66 (d : Nat) (μ : jM) (u0 : Value) (u1 : Value) : jR d 117 66 [u0, u1] [] μ = jR d 117 125 [u0, u1] [] μ :=
  l_goto (show gPG 117 66 = some (.goto 59) by decide +kernel) (t := 125) (by decide +kernel)
theorem b117_89 (d : Nat) (μ : jM) (a : Nat) (i1 : Int32) (s0 : Int32) : jR (d + 1) 117 89 [.ref a, .int i1] [.int s0] μ = (if s0 = 0 then (if jrecv μ 7 (.ref a) = true then (jC d 118 [.ref a, .int i1] μ).bind fun p1 => jR (d + 1) 117 122 [.ref a, .int i1] (p1.1.toList ++ [.int i1, .ref a]) p1.2 else none) else (jgR μ 7 0 (.ref a)).bind fun w2 => (jgR μ 7 4 (.ref a)).bind fun w3 => (jgI μ 7 9 (.ref a)).bind fun x4 => (jgI μ 7 10 (.ref a)).bind fun x5 => (if jrecv μ 6 w2 = true then (jC d 109 [w2, w3, .int x4, .int x5, .int i1] μ).bind fun p6 => jR (d + 1) 117 112 [.ref a, .int i1] (p6.1.toList ++ []) p6.2 else none)) :=
  (l_cmp0 (show gPG 117 89 = some (.ifCond .eq 26) by decide +kernel) (t := 115) (by decide +kernel)).trans <| jm_eq.trans <| ite_cg (
  (l_aload_n (show gPG 117 115 = some (.aload_n 0) by decide +kernel) rfl jr_ref).trans <|
  (l_iload_n (show gPG 117 116 = some (.iload_n 1) by decide +kernel) rfl).trans <|
  (l_aload_n (show gPG 117 117 = some (.aload_n 0) by decide +kernel) rfl jr_ref).trans <|
  (l_iload_n (show gPG 117 118 = some (.iload_n 1) by decide +kernel) rfl).trans <|
  l_callV (u := 1) (v := .ref a) (as := [.int i1]) (show gPG 117 119 = some (jinvI 1 111) by decide +kernel) (by decide) (cc := 118) (na := 2) (kd := 7) (q4 := 0) (z := 10) (rest := [.int i1, .ref a]) (by decide +kernel) (by decide +kernel)  rfl (show (2 : Nat) ≤ 4 by decide) rfl (csi (csv jr_ref cs0)) (by decide +kernel) (cai (cav jr_ref ca0))) (
  (l_aload_n (show gPG 117 92 = some (.aload_n 0) by decide +kernel) rfl jr_ref).trans <|
  (l_gR (show gPG 117 93 = some (.getfield 12) by decide +kernel) (kd := 7) (sl := 0) (tc := 1) (fin := 1) (z := 0) (by decide +kernel) (by decide +kernel) (by decide +kernel)).trans <| bd_cg fun w2 hw2 =>
  (l_aload_n (show gPG 117 96 = some (.aload_n 0) by decide +kernel) rfl jr_ref).trans <|
  (l_gR (show gPG 117 97 = some (.getfield 31) by decide +kernel) (kd := 7) (sl := 4) (tc := 1) (fin := 0) (z := 0) (by decide +kernel) (by decide +kernel) (by decide +kernel)).trans <| bd_cg fun w3 hw3 =>
  (l_aload_n (show gPG 117 100 = some (.aload_n 0) by decide +kernel) rfl jr_ref).trans <|
  (l_gI (show gPG 117 101 = some (.getfield 72) by decide +kernel) (kd := 7) (sl := 9) (tc := 0) (fin := 0) (z := 0) (by decide +kernel) (by decide +kernel) (by decide +kernel)).trans <| bd_cg fun x4 hx4 =>
  (l_aload_n (show gPG 117 104 = some (.aload_n 0) by decide +kernel) rfl jr_ref).trans <|
  (l_gI (show gPG 117 105 = some (.getfield 75) by decide +kernel) (kd := 7) (sl := 10) (tc := 0) (fin := 0) (z := 0) (by decide +kernel) (by decide +kernel) (by decide +kernel)).trans <| bd_cg fun x5 hx5 =>
  (l_iload_n (show gPG 117 108 = some (.iload_n 1) by decide +kernel) rfl).trans <|
  l_callV (u := 1) (v := w2) (as := [w3, .int x4, .int x5, .int i1]) (show gPG 117 109 = some (jinvI 1 107) by decide +kernel) (by decide) (cc := 109) (na := 5) (kd := 6) (q4 := 0) (z := 11) (rest := []) (by decide +kernel) (by decide +kernel)  rfl (show (5 : Nat) ≤ 5 by decide) rfl cs0 (by decide +kernel) (cai (cai (cai (cav (jr_gR hw3) (cav (jr_gR hw2) ca0))))))
theorem b117_112 (d : Nat) (μ : jM) (u0 : Value) (u1 : Value) : jR d 117 112 [u0, u1] [] μ = jR d 117 125 [u0, u1] [] μ :=
  l_goto (show gPG 117 112 = some (.goto 13) by decide +kernel) (t := 125) (by decide +kernel)
theorem b117_122 (d : Nat) (μ : jM) (u0 : Value) (u1 : Value) (s0 : Value) (s1 : Int32) (s2 : Int32) (hs0 : jisref s0 = true) : jR (d + 1) 117 122 [u0, u1] [.int s2, .int s1, s0] μ = (if jrecv μ 7 s0 = true then (jC d 119 [s0, .int s1, .int s2] μ).bind fun p1 => jR (d + 1) 117 125 [u0, u1] (p1.1.toList ++ []) p1.2 else none) :=
  l_callV (u := 1) (v := s0) (as := [.int s1, .int s2]) (show gPG 117 122 = some (jinvI 1 115) by decide +kernel) (by decide) (cc := 119) (na := 3) (kd := 7) (q4 := 0) (z := 10) (rest := []) (by decide +kernel) (by decide +kernel)  rfl (show (3 : Nat) ≤ 3 by decide) rfl cs0 (by decide +kernel) (cai (cai (cav hs0 ca0)))
theorem b117_125 (d : Nat) (μ : jM) (u0 : Value) (u1 : Value) : jR d 117 125 [u0, u1] [] μ = some (none, μ) :=
  l_ret (show gPG 117 125 = some (.return_) by decide +kernel) (by decide +kernel)
-- Merging.areNumbers
theorem b118_0 (d : Nat) (μ : jM) (a : Nat) (i1 : Int32) : jR (d + 1) 118 0 [.ref a, .int i1] [] μ = (jgR μ 7 3 (.ref a)).bind fun w1 => (jgI μ 7 8 (.ref a)).bind fun x2 => (if jrecv μ 6 w1 = true then (jC d 101 [w1, .int x2, .int i1] μ).bind fun p3 => jR (d + 1) 118 12 [.ref a, .int i1] (p3.1.toList ++ []) p3.2 else none) :=
  (l_aload_n (show gPG 118 0 = some (.aload_n 0) by decide +kernel) rfl jr_ref).trans <|
  (l_gR (show gPG 118 1 = some (.getfield 28) by decide +kernel) (kd := 7) (sl := 3) (tc := 1) (fin := 0) (z := 0) (by decide +kernel) (by decide +kernel) (by decide +kernel)).trans <| bd_cg fun w1 hw1 =>
  (l_aload_n (show gPG 118 4 = some (.aload_n 0) by decide +kernel) rfl jr_ref).trans <|
  (l_gI (show gPG 118 5 = some (.getfield 69) by decide +kernel) (kd := 7) (sl := 8) (tc := 0) (fin := 0) (z := 0) (by decide +kernel) (by decide +kernel) (by decide +kernel)).trans <| bd_cg fun x2 hx2 =>
  (l_iload_n (show gPG 118 8 = some (.iload_n 1) by decide +kernel) rfl).trans <|
  l_callV (u := 1) (v := w1) (as := [.int x2, .int i1]) (show gPG 118 9 = some (jinvI 1 119) by decide +kernel) (by decide) (cc := 101) (na := 3) (kd := 6) (q4 := 0) (z := 11) (rest := []) (by decide +kernel) (by decide +kernel)  rfl (show (3 : Nat) ≤ 3 by decide) rfl cs0 (by decide +kernel) (cai (cai (cav (jr_gR hw1) ca0)))
theorem b118_12 (d : Nat) (μ : jM) (a : Nat) (i1 : Int32) (s0 : Int32) : jR (d + 1) 118 12 [.ref a, .int i1] [.int s0] μ = (if s0 = 1 then (jgR μ 7 4 (.ref a)).bind fun w1 => (jgI μ 7 9 (.ref a)).bind fun x2 => (if jrecv μ 6 w1 = true then (jC d 101 [w1, .int x2, .int i1] μ).bind fun p3 => jR (d + 1) 118 28 [.ref a, .int i1] (p3.1.toList ++ []) p3.2 else none) else jR (d + 1) 118 36 [.ref a, .int i1] [] μ) :=
  (l_iconst (show gPG 118 12 = some (.iconst 1) by decide +kernel) (c := 1) (by decide +kernel)).trans <|
  (l_cmp (show gPG 118 13 = some (.if_icmp .ne 23) by decide +kernel) (t := 36) (by decide +kernel)).trans <| jm_ne.trans <| ite_cg (
  (l_aload_n (show gPG 118 16 = some (.aload_n 0) by decide +kernel) rfl jr_ref).trans <|
  (l_gR (show gPG 118 17 = some (.getfield 31) by decide +kernel) (kd := 7) (sl := 4) (tc := 1) (fin := 0) (z := 0) (by decide +kernel) (by decide +kernel) (by decide +kernel)).trans <| bd_cg fun w1 hw1 =>
  (l_aload_n (show gPG 118 20 = some (.aload_n 0) by decide +kernel) rfl jr_ref).trans <|
  (l_gI (show gPG 118 21 = some (.getfield 72) by decide +kernel) (kd := 7) (sl := 9) (tc := 0) (fin := 0) (z := 0) (by decide +kernel) (by decide +kernel) (by decide +kernel)).trans <| bd_cg fun x2 hx2 =>
  (l_iload_n (show gPG 118 24 = some (.iload_n 1) by decide +kernel) rfl).trans <|
  l_callV (u := 1) (v := w1) (as := [.int x2, .int i1]) (show gPG 118 25 = some (jinvI 1 119) by decide +kernel) (by decide) (cc := 101) (na := 3) (kd := 6) (q4 := 0) (z := 11) (rest := []) (by decide +kernel) (by decide +kernel)  rfl (show (3 : Nat) ≤ 3 by decide) rfl cs0 (by decide +kernel) (cai (cai (cav (jr_gR hw1) ca0)))) (
  rfl)
theorem b118_28 (d : Nat) (μ : jM) (u0 : Value) (u1 : Value) (s0 : Int32) : jR d 118 28 [u0, u1] [.int s0] μ = (if s0 = 1 then jR d 118 37 [u0, u1] [.int 1] μ else jR d 118 36 [u0, u1] [] μ) :=
  (l_iconst (show gPG 118 28 = some (.iconst 1) by decide +kernel) (c := 1) (by decide +kernel)).trans <|
  (l_cmp (show gPG 118 29 = some (.if_icmp .ne 7) by decide +kernel) (t := 36) (by decide +kernel)).trans <| jm_ne.trans <| ite_cg (
  (l_iconst (show gPG 118 32 = some (.iconst 1) by decide +kernel) (c := 1) (by decide +kernel)).trans <|
  l_goto (show gPG 118 33 = some (.goto 4) by decide +kernel) (t := 37) (by decide +kernel)) (
  rfl)
theorem b118_36 (d : Nat) (μ : jM) (u0 : Value) (u1 : Value) : jR d 118 36 [u0, u1] [] μ = jR d 118 37 [u0, u1] [.int 0] μ :=
  l_iconst (show gPG 118 36 = some (.iconst 0) by decide +kernel) (c := 0) (by decide +kernel)
theorem b118_37 (d : Nat) (μ : jM) (u0 : Value) (u1 : Value) (s0 : Int32) : jR d 118 37 [u0, u1] [.int s0] μ = (if jrf 4 s0 = true then some (some (.int s0), μ) else none) :=
  l_iret (show gPG 118 37 = some (.ireturn) by decide +kernel) (rc := 4) (by decide +kernel)
-- Merging.mergeChanged
theorem b119_0 (d : Nat) (μ : jM) (a : Nat) (i1 : Int32) (i2 : Int32) : jR (d + 1) 119 0 [.ref a, .int i1, .int i2, .retAddr 0, .retAddr 0, .retAddr 0, .retAddr 0] [] μ = (jgR μ 7 3 (.ref a)).bind fun w1 => (jgI μ 7 8 (.ref a)).bind fun x2 => (if jrecv μ 6 w1 = true then (jC d 102 [w1, .int x2, .int i1] μ).bind fun p3 => jR (d + 1) 119 12 [.ref a, .int i1, .int i2, .retAddr 0, .retAddr 0, .retAddr 0, .retAddr 0] (p3.1.toList ++ []) p3.2 else none) :=
  (l_aload_n (show gPG 119 0 = some (.aload_n 0) by decide +kernel) rfl jr_ref).trans <|
  (l_gR (show gPG 119 1 = some (.getfield 28) by decide +kernel) (kd := 7) (sl := 3) (tc := 1) (fin := 0) (z := 0) (by decide +kernel) (by decide +kernel) (by decide +kernel)).trans <| bd_cg fun w1 hw1 =>
  (l_aload_n (show gPG 119 4 = some (.aload_n 0) by decide +kernel) rfl jr_ref).trans <|
  (l_gI (show gPG 119 5 = some (.getfield 69) by decide +kernel) (kd := 7) (sl := 8) (tc := 0) (fin := 0) (z := 0) (by decide +kernel) (by decide +kernel) (by decide +kernel)).trans <| bd_cg fun x2 hx2 =>
  (l_iload_n (show gPG 119 8 = some (.iload_n 1) by decide +kernel) rfl).trans <|
  l_callV (u := 1) (v := w1) (as := [.int x2, .int i1]) (show gPG 119 9 = some (jinvI 1 123) by decide +kernel) (by decide) (cc := 102) (na := 3) (kd := 6) (q4 := 0) (z := 11) (rest := []) (by decide +kernel) (by decide +kernel)  rfl (show (3 : Nat) ≤ 3 by decide) rfl cs0 (by decide +kernel) (cai (cai (cav (jr_gR hw1) ca0)))
theorem b119_12 (d : Nat) (μ : jM) (a : Nat) (i1 : Int32) (i2 : Int32) (u3 : Value) (u4 : Value) (u5 : Value) (u6 : Value) (s0 : Int32) : jR (d + 1) 119 12 [.ref a, .int i1, .int i2, u3, u4, u5, u6] [.int s0] μ = (jgR μ 7 4 (.ref a)).bind fun w1 => (jgI μ 7 9 (.ref a)).bind fun x2 => (if jrecv μ 6 w1 = true then (jC d 102 [w1, .int x2, .int i1] μ).bind fun p3 => jR (d + 1) 119 25 [.ref a, .int i1, .int i2, .int s0, u4, u5, u6] (p3.1.toList ++ []) p3.2 else none) :=
  (l_istore_n (show gPG 119 12 = some (.istore_n 3) by decide +kernel) (ls := [.ref a, .int i1, .int i2, u3, u4, u5, u6]) (show (3 : Nat) < 7 by decide) (show _ = ([.ref a, .int i1, .int i2, .int s0, u4, u5, u6] : List Value) from rfl)).trans <|
  (l_aload_n (show gPG 119 13 = some (.aload_n 0) by decide +kernel) rfl jr_ref).trans <|
  (l_gR (show gPG 119 14 = some (.getfield 31) by decide +kernel) (kd := 7) (sl := 4) (tc := 1) (fin := 0) (z := 0) (by decide +kernel) (by decide +kernel) (by decide +kernel)).trans <| bd_cg fun w1 hw1 =>
  (l_aload_n (show gPG 119 17 = some (.aload_n 0) by decide +kernel) rfl jr_ref).trans <|
  (l_gI (show gPG 119 18 = some (.getfield 72) by decide +kernel) (kd := 7) (sl := 9) (tc := 0) (fin := 0) (z := 0) (by decide +kernel) (by decide +kernel) (by decide +kernel)).trans <| bd_cg fun x2 hx2 =>
  (l_iload_n (show gPG 119 21 = some (.iload_n 1) by decide +kernel) rfl).trans <|
  l_callV (u := 1) (v := w1) (as := [.int x2, .int i1]) (show gPG 119 22 = some (jinvI 1 123) by decide +kernel) (by decide) (cc := 102) (na := 3) (kd := 6) (q4 := 0) (z := 11) (rest := []) (by decide +kernel) (by decide +kernel)  rfl (show (3 : Nat) ≤ 3 by decide) rfl cs0 (by decide +kernel) (cai (cai (cav (jr_gR hw1) ca0)))
theorem b119_25 (d : Nat) (μ : jM) (a : Nat) (i1 : Int32) (i2 : Int32) (i3 : Int32) (u4 : Value) (u5 : Value) (u6 : Value) (s0 : Int32) : jR (d + 1) 119 25 [.ref a, .int i1, .int i2, .int i3, u4, u5, u6] [.int s0] μ = (if i2 = 0 then jR (d + 1) 119 128 [.ref a, .int i1, .int i2, .int i3, .int s0, u5, u6] [] μ else (jgR μ 7 5 (.ref a)).bind fun w1 => (if jrecv μ 8 w1 = true then (jC d 122 [w1, .int i1, .int 3] μ).bind fun p2 => jR (d + 1) 119 40 [.ref a, .int i1, .int i2, .int i3, .int s0, u5, u6] (p2.1.toList ++ []) p2.2 else none)) :=
  (l_istore (show gPG 119 25 = some (.istore 4) by decide +kernel) (ls := [.ref a, .int i1, .int i2, .int i3, u4, u5, u6]) (show (4 : Nat) < 7 by decide) (show _ = ([.ref a, .int i1, .int i2, .int i3, .int s0, u5, u6] : List Value) from rfl)).trans <|
  (l_iload_n (show gPG 119 27 = some (.iload_n 2) by decide +kernel) rfl).trans <|
  (l_cmp0 (show gPG 119 28 = some (.ifCond .eq 100) by decide +kernel) (t := 128) (by decide +kernel)).trans <| jm_eq.trans <| ite_cg (
  rfl) (
  (l_aload_n (show gPG 119 31 = some (.aload_n 0) by decide +kernel) rfl jr_ref).trans <|
  (l_gR (show gPG 119 32 = some (.getfield 34) by decide +kernel) (kd := 7) (sl := 5) (tc := 1) (fin := 0) (z := 0) (by decide +kernel) (by decide +kernel) (by decide +kernel)).trans <| bd_cg fun w1 hw1 =>
  (l_iload_n (show gPG 119 35 = some (.iload_n 1) by decide +kernel) rfl).trans <|
  (l_iconst (show gPG 119 36 = some (.iconst 3) by decide +kernel) (c := 3) (by decide +kernel)).trans <|
  l_callV (u := 1) (v := w1) (as := [.int i1, .int 3]) (show gPG 119 37 = some (jinvI 1 126) by decide +kernel) (by decide) (cc := 122) (na := 3) (kd := 8) (q4 := 0) (z := 11) (rest := []) (by decide +kernel) (by decide +kernel)  rfl (show (3 : Nat) ≤ 3 by decide) rfl cs0 (by decide +kernel) (cai (cai (cav (jr_gR hw1) ca0))))
theorem b119_40 (d : Nat) (μ : jM) (a : Nat) (i1 : Int32) (i2 : Int32) (i3 : Int32) (i4 : Int32) (u5 : Value) (u6 : Value) (s0 : Int32) : jR (d + 1) 119 40 [.ref a, .int i1, .int i2, .int i3, .int i4, u5, u6] [.int s0] μ = (if s0 = 0 then jR (d + 1) 119 128 [.ref a, .int i1, .int i2, .int i3, .int i4, u5, u6] [] μ else (jgR μ 7 2 (.ref a)).bind fun w1 => (jgI μ 7 7 (.ref a)).bind fun x2 => (if jrecv μ 6 w1 = true then (jC d 101 [w1, .int x2, .int i1] μ).bind fun p3 => jR (d + 1) 119 55 [.ref a, .int i1, .int i2, .int i3, .int i4, u5, u6] (p3.1.toList ++ []) p3.2 else none)) :=
  (l_cmp0 (show gPG 119 40 = some (.ifCond .eq 88) by decide +kernel) (t := 128) (by decide +kernel)).trans <| jm_eq.trans <| ite_cg (
  rfl) (
  (l_aload_n (show gPG 119 43 = some (.aload_n 0) by decide +kernel) rfl jr_ref).trans <|
  (l_gR (show gPG 119 44 = some (.getfield 25) by decide +kernel) (kd := 7) (sl := 2) (tc := 1) (fin := 0) (z := 0) (by decide +kernel) (by decide +kernel) (by decide +kernel)).trans <| bd_cg fun w1 hw1 =>
  (l_aload_n (show gPG 119 47 = some (.aload_n 0) by decide +kernel) rfl jr_ref).trans <|
  (l_gI (show gPG 119 48 = some (.getfield 66) by decide +kernel) (kd := 7) (sl := 7) (tc := 0) (fin := 0) (z := 0) (by decide +kernel) (by decide +kernel) (by decide +kernel)).trans <| bd_cg fun x2 hx2 =>
  (l_iload_n (show gPG 119 51 = some (.iload_n 1) by decide +kernel) rfl).trans <|
  l_callV (u := 1) (v := w1) (as := [.int x2, .int i1]) (show gPG 119 52 = some (jinvI 1 119) by decide +kernel) (by decide) (cc := 101) (na := 3) (kd := 6) (q4 := 0) (z := 11) (rest := []) (by decide +kernel) (by decide +kernel)  rfl (show (3 : Nat) ≤ 3 by decide) rfl cs0 (by decide +kernel) (cai (cai (cav (jr_gR hw1) ca0))))
theorem b119_55 (d : Nat) (μ : jM) (a : Nat) (i1 : Int32) (i2 : Int32) (i3 : Int32) (i4 : Int32) (u5 : Value) (u6 : Value) (s0 : Int32) : jR (d + 1) 119 55 [.ref a, .int i1, .int i2, .int i3, .int i4, u5, u6] [.int s0] μ = (if s0 = 2 then jR (d + 1) 119 128 [.ref a, .int i1, .int i2, .int i3, .int i4, u5, u6] [] μ else (jgR μ 7 2 (.ref a)).bind fun w1 => (jgI μ 7 7 (.ref a)).bind fun x2 => (if jrecv μ 6 w1 = true then (jC d 102 [w1, .int x2, .int i1] μ).bind fun p3 => jR (d + 1) 119 75 [.ref a, .int i1, .int i2, .int i3, .int i4, u5, u6] (p3.1.toList ++ [.int (i3 + i4)]) p3.2 else none)) :=
  (l_iconst (show gPG 119 55 = some (.iconst 2) by decide +kernel) (c := 2) (by decide +kernel)).trans <|
  (l_cmp (show gPG 119 56 = some (.if_icmp .eq 72) by decide +kernel) (t := 128) (by decide +kernel)).trans <| jm_eq.trans <| ite_cg (
  rfl) (
  (l_iload_n (show gPG 119 59 = some (.iload_n 3) by decide +kernel) rfl).trans <|
  (l_iload (show gPG 119 60 = some (.iload 4) by decide +kernel) rfl).trans <|
  (l_iadd (show gPG 119 62 = some (.iadd) by decide +kernel) ).trans <|
  (l_aload_n (show gPG 119 63 = some (.aload_n 0) by decide +kernel) rfl jr_ref).trans <|
  (l_gR (show gPG 119 64 = some (.getfield 25) by decide +kernel) (kd := 7) (sl := 2) (tc := 1) (fin := 0) (z := 0) (by decide +kernel) (by decide +kernel) (by decide +kernel)).trans <| bd_cg fun w1 hw1 =>
  (l_aload_n (show gPG 119 67 = some (.aload_n 0) by decide +kernel) rfl jr_ref).trans <|
  (l_gI (show gPG 119 68 = some (.getfield 66) by decide +kernel) (kd := 7) (sl := 7) (tc := 0) (fin := 0) (z := 0) (by decide +kernel) (by decide +kernel) (by decide +kernel)).trans <| bd_cg fun x2 hx2 =>
  (l_iload_n (show gPG 119 71 = some (.iload_n 1) by decide +kernel) rfl).trans <|
  l_callV (u := 1) (v := w1) (as := [.int x2, .int i1]) (show gPG 119 72 = some (jinvI 1 123) by decide +kernel) (by decide) (cc := 102) (na := 3) (kd := 6) (q4 := 0) (z := 11) (rest := [.int (i3 + i4)]) (by decide +kernel) (by decide +kernel)  rfl (show (3 : Nat) ≤ 4 by decide) rfl (csi cs0) (by decide +kernel) (cai (cai (cav (jr_gR hw1) ca0))))
theorem b119_75 (d : Nat) (μ : jM) (a : Nat) (i1 : Int32) (u2 : Value) (u3 : Value) (u4 : Value) (u5 : Value) (u6 : Value) (s0 : Int32) (s1 : Int32) : jR (d + 1) 119 75 [.ref a, .int i1, u2, u3, u4, u5, u6] [.int s1, .int s0] μ = (jgR μ 7 5 (.ref a)).bind fun w1 => (if jrecv μ 8 w1 = true then (jC d 122 [w1, .int i1, .int 4] μ).bind fun p2 => jR (d + 1) 119 87 [.ref a, .int i1, u2, u3, u4, .int (s0 - s1), u6] (p2.1.toList ++ []) p2.2 else none) :=
  (l_isub (show gPG 119 75 = some (.isub) by decide +kernel) ).trans <|
  (l_istore (show gPG 119 76 = some (.istore 5) by decide +kernel) (ls := [.ref a, .int i1, u2, u3, u4, u5, u6]) (show (5 : Nat) < 7 by decide) (show _ = ([.ref a, .int i1, u2, u3, u4, .int (s0 - s1), u6] : List Value) from rfl)).trans <|
  (l_aload_n (show gPG 119 78 = some (.aload_n 0) by decide +kernel) rfl jr_ref).trans <|
  (l_gR (show gPG 119 79 = some (.getfield 34) by decide +kernel) (kd := 7) (sl := 5) (tc := 1) (fin := 0) (z := 0) (by decide +kernel) (by decide +kernel) (by decide +kernel)).trans <| bd_cg fun w1 hw1 =>
  (l_iload_n (show gPG 119 82 = some (.iload_n 1) by decide +kernel) rfl).trans <|
  (l_iconst (show gPG 119 83 = some (.iconst 4) by decide +kernel) (c := 4) (by decide +kernel)).trans <|
  l_callV (u := 1) (v := w1) (as := [.int i1, .int 4]) (show gPG 119 84 = some (jinvI 1 126) by decide +kernel) (by decide) (cc := 122) (na := 3) (kd := 8) (q4 := 0) (z := 11) (rest := []) (by decide +kernel) (by decide +kernel)  rfl (show (3 : Nat) ≤ 3 by decide) rfl cs0 (by decide +kernel) (cai (cai (cav (jr_gR hw1) ca0)))
theorem b119_87 (d : Nat) (μ : jM) (a : Nat) (i1 : Int32) (u2 : Value) (u3 : Value) (u4 : Value) (i5 : Int32) (u6 : Value) (s0 : Int32) : jR d 119 87 [.ref a, .int i1, u2, u3, u4, .int i5, u6] [.int s0] μ = (if s0 = 0 then jR d 119 104 [.ref a, .int i1, u2, u3, u4, .int i5, u6] [.int 2147483647] μ else (jgR μ 7 5 (.ref a)).bind fun w1 => (jgR μ 8 1 w1).bind fun w2 => (jaI μ w2 i1).bind fun x3 => jR d 119 104 [.ref a, .int i1, u2, u3, u4, .int i5, u6] [.int x3] μ) :=
  (l_cmp0 (show gPG 119 87 = some (.ifCond .eq 15) by decide +kernel) (t := 102) (by decide +kernel)).trans <| jm_eq.trans <| ite_cg (
  l_ldc (show gPG 119 102 = some (.ldc 136) by decide +kernel) (c := 2147483647) (by decide +kernel)) (
  (l_aload_n (show gPG 119 90 = some (.aload_n 0) by decide +kernel) rfl jr_ref).trans <|
  (l_gR (show gPG 119 91 = some (.getfield 34) by decide +kernel) (kd := 7) (sl := 5) (tc := 1) (fin := 0) (z := 0) (by decide +kernel) (by decide +kernel) (by decide +kernel)).trans <| bd_cg fun w1 hw1 =>
  (l_gR (show gPG 119 94 = some (.getfield 132) by decide +kernel) (kd := 8) (sl := 1) (tc := 1) (fin := 1) (z := 1) (by decide +kernel) (by decide +kernel) (by decide +kernel)).trans <| bd_cg fun w2 hw2 =>
  (l_iload_n (show gPG 119 97 = some (.iload_n 1) by decide +kernel) rfl).trans <|
  (l_iald (show gPG 119 98 = some (.iaload) by decide +kernel) ).trans <| bd_cg fun x3 hx3 =>
  l_goto (show gPG 119 99 = some (.goto 5) by decide +kernel) (t := 104) (by decide +kernel))
theorem b119_104 (d : Nat) (μ : jM) (a : Nat) (i1 : Int32) (u2 : Value) (u3 : Value) (u4 : Value) (i5 : Int32) (u6 : Value) (s0 : Int32) : jR (d + 1) 119 104 [.ref a, .int i1, u2, u3, u4, .int i5, u6] [.int s0] μ = (jgR μ 7 0 (.ref a)).bind fun w1 => (jgI μ 7 10 (.ref a)).bind fun x2 => (jC d 279 [.int i5, .int s0] μ).bind fun p3 => jR (d + 1) 119 123 [.ref a, .int i1, u2, u3, u4, .int i5, .int s0] (p3.1.toList ++ [.int 1, .int i1, .int x2, w1]) p3.2 :=
  (l_istore (show gPG 119 104 = some (.istore 6) by decide +kernel) (ls := [.ref a, .int i1, u2, u3, u4, .int i5, u6]) (show (6 : Nat) < 7 by decide) (show _ = ([.ref a, .int i1, u2, u3, u4, .int i5, .int s0] : List Value) from rfl)).trans <|
  (l_aload_n (show gPG 119 106 = some (.aload_n 0) by decide +kernel) rfl jr_ref).trans <|
  (l_gR (show gPG 119 107 = some (.getfield 12) by decide +kernel) (kd := 7) (sl := 0) (tc := 1) (fin := 1) (z := 0) (by decide +kernel) (by decide +kernel) (by decide +kernel)).trans <| bd_cg fun w1 hw1 =>
  (l_aload_n (show gPG 119 110 = some (.aload_n 0) by decide +kernel) rfl jr_ref).trans <|
  (l_gI (show gPG 119 111 = some (.getfield 75) by decide +kernel) (kd := 7) (sl := 10) (tc := 0) (fin := 0) (z := 0) (by decide +kernel) (by decide +kernel) (by decide +kernel)).trans <| bd_cg fun x2 hx2 =>
  (l_iload_n (show gPG 119 114 = some (.iload_n 1) by decide +kernel) rfl).trans <|
  (l_iconst (show gPG 119 115 = some (.iconst 1) by decide +kernel) (c := 1) (by decide +kernel)).trans <|
  (l_iload (show gPG 119 116 = some (.iload 5) by decide +kernel) rfl).trans <|
  (l_iload (show gPG 119 118 = some (.iload 6) by decide +kernel) rfl).trans <|
  l_callS (u := 2) (as := [.int i5, .int s0]) (show gPG 119 120 = some (jinvI 2 137) by decide +kernel) (by decide) (cc := 279) (na := 2) (q4 := 0) (z := 12) (rest := [.int 1, .int i1, .int x2, w1]) (by decide +kernel) (by decide +kernel)  rfl (show (2 : Nat) ≤ 6 by decide) rfl (csi (csi (csi (csv (jr_gR hw1) cs0)))) (by decide +kernel) (cai (cai ca0)) (fun e => absurd e (by decide))
theorem b119_123 (d : Nat) (μ : jM) (u0 : Value) (u1 : Value) (u2 : Value) (u3 : Value) (u4 : Value) (u5 : Value) (u6 : Value) (s0 : Value) (s1 : Int32) (s2 : Int32) (s3 : Int32) (s4 : Int32) (hs0 : jisref s0 = true) : jR (d + 1) 119 123 [u0, u1, u2, u3, u4, u5, u6] [.int s4, .int s3, .int s2, .int s1, s0] μ = (if jrecv μ 6 s0 = true then (jC d 91 [s0, .int s1, .int s2, .int s3, .int s4, .null] μ).bind fun p1 => jR (d + 1) 119 127 [u0, u1, u2, u3, u4, u5, u6] (p1.1.toList ++ []) p1.2 else none) :=
  (l_anull (show gPG 119 123 = some (.aconst_null) by decide +kernel) ).trans <|
  l_callV (u := 1) (v := s0) (as := [.int s1, .int s2, .int s3, .int s4, .null]) (show gPG 119 124 = some (jinvI 1 142) by decide +kernel) (by decide) (cc := 91) (na := 6) (kd := 6) (q4 := 0) (z := 11) (rest := []) (by decide +kernel) (by decide +kernel)  rfl (show (6 : Nat) ≤ 6 by decide) rfl cs0 (by decide +kernel) (cav jr_null (cai (cai (cai (cai (cav hs0 ca0))))))
theorem b119_127 (d : Nat) (μ : jM) (u0 : Value) (u1 : Value) (u2 : Value) (u3 : Value) (u4 : Value) (u5 : Value) (u6 : Value) : jR d 119 127 [u0, u1, u2, u3, u4, u5, u6] [] μ = some (none, μ) :=
  l_ret (show gPG 119 127 = some (.return_) by decide +kernel) (by decide +kernel)
theorem b119_128 (d : Nat) (μ : jM) (a : Nat) (i1 : Int32) (i2 : Int32) (i3 : Int32) (i4 : Int32) (u5 : Value) (u6 : Value) : jR (d + 1) 119 128 [.ref a, .int i1, .int i2, .int i3, .int i4, u5, u6] [] μ = (jgR μ 7 1 (.ref a)).bind fun w1 => (jgI μ 7 6 (.ref a)).bind fun x2 => (if jrecv μ 4 w1 = true then (jC d 76 [w1, .int 1, .int x2, .int i1] μ).bind fun p3 => jR (d + 1) 119 141 [.ref a, .int i1, .int i2, .int i3, .int i4, u5, u6] (p3.1.toList ++ []) p3.2 else none) :=
  (l_aload_n (show gPG 119 128 = some (.aload_n 0) by decide +kernel) rfl jr_ref).trans <|
  (l_gR (show gPG 119 129 = some (.getfield 21) by decide +kernel) (kd := 7) (sl := 1) (tc := 1) (fin := 1) (z := 0) (by decide +kernel) (by decide +kernel) (by decide +kernel)).trans <| bd_cg fun w1 hw1 =>
  (l_iconst (show gPG 119 132 = some (.iconst 1) by decide +kernel) (c := 1) (by decide +kernel)).trans <|
  (l_aload_n (show gPG 119 133 = some (.aload_n 0) by decide +kernel) rfl jr_ref).trans <|
  (l_gI (show gPG 119 134 = some (.getfield 63) by decide +kernel) (kd := 7) (sl := 6) (tc := 0) (fin := 0) (z := 0) (by decide +kernel) (by decide +kernel) (by decide +kernel)).trans <| bd_cg fun x2 hx2 =>
  (l_iload_n (show gPG 119 137 = some (.iload_n 1) by decide +kernel) rfl).trans <|
  l_callV (u := 1) (v := w1) (as := [.int 1, .int x2, .int i1]) (show gPG 119 138 = some (jinvI 1 93) by decide +kernel) (by decide) (cc := 76) (na := 4) (kd := 4) (q4 := 0) (z := 11) (rest := []) (by decide +kernel) (by decide +kernel)  rfl (show (4 : Nat) ≤ 4 by decide) rfl cs0 (by decide +kernel) (cai (cai (cai (cav (jr_gR hw1) ca0))))
theorem b119_141 (d : Nat) (μ : jM) (a : Nat) (i1 : Int32) (i2 : Int32) (i3 : Int32) (i4 : Int32) (u5 : Value) (u6 : Value) : jR (d + 1) 119 141 [.ref a, .int i1, .int i2, .int i3, .int i4, u5, u6] [] μ = (jgR μ 7 5 (.ref a)).bind fun w1 => (if jrecv μ 8 w1 = true then (jC d 122 [w1, .int i1, .int 5] μ).bind fun p2 => jR (d + 1) 119 150 [.ref a, .int i1, .int i2, .int i3, .int i4, u5, u6] (p2.1.toList ++ []) p2.2 else none) :=
  (l_aload_n (show gPG 119 141 = some (.aload_n 0) by decide +kernel) rfl jr_ref).trans <|
  (l_gR (show gPG 119 142 = some (.getfield 34) by decide +kernel) (kd := 7) (sl := 5) (tc := 1) (fin := 0) (z := 0) (by decide +kernel) (by decide +kernel) (by decide +kernel)).trans <| bd_cg fun w1 hw1 =>
  (l_iload_n (show gPG 119 145 = some (.iload_n 1) by decide +kernel) rfl).trans <|
  (l_iconst (show gPG 119 146 = some (.iconst 5) by decide +kernel) (c := 5) (by decide +kernel)).trans <|
  l_callV (u := 1) (v := w1) (as := [.int i1, .int 5]) (show gPG 119 147 = some (jinvI 1 126) by decide +kernel) (by decide) (cc := 122) (na := 3) (kd := 8) (q4 := 0) (z := 11) (rest := []) (by decide +kernel) (by decide +kernel)  rfl (show (3 : Nat) ≤ 3 by decide) rfl cs0 (by decide +kernel) (cai (cai (cav (jr_gR hw1) ca0)))
theorem b119_150 (d : Nat) (μ : jM) (a : Nat) (i1 : Int32) (i2 : Int32) (i3 : Int32) (i4 : Int32) (u5 : Value) (u6 : Value) (s0 : Int32) : jR (d + 1) 119 150 [.ref a, .int i1, .int i2, .int i3, .int i4, u5, u6] [.int s0] μ = (if s0 = 0 then (jgR μ 7 5 (.ref a)).bind fun w1 => (if jrecv μ 8 w1 = true then (jC d 122 [w1, .int i1, .int 1] μ).bind fun p2 => jR (d + 1) 119 185 [.ref a, .int i1, .int i2, .int i3, .int i4, u5, u6] (p2.1.toList ++ []) p2.2 else none) else (jgR μ 7 0 (.ref a)).bind fun w3 => (jgR μ 7 2 (.ref a)).bind fun w4 => (jgI μ 7 7 (.ref a)).bind fun x5 => (jgI μ 7 10 (.ref a)).bind fun x6 => (if jrecv μ 6 w3 = true then (jC d 109 [w3, w4, .int x5, .int x6, .int i1] μ).bind fun p7 => jR (d + 1) 119 173 [.ref a, .int i1, .int i2, .int i3, .int i4, u5, u6] (p7.1.toList ++ []) p7.2 else none)) :=
  (l_cmp0 (show gPG 119 150 = some (.ifCond .eq 26) by decide +kernel) (t := 176) (by decide +kernel)).trans <| jm_eq.trans <| ite_cg (
  (l_aload_n (show gPG 119 176 = some (.aload_n 0) by decide +kernel) rfl jr_ref).trans <|
  (l_gR (show gPG 119 177 = some (.getfield 34) by decide +kernel) (kd := 7) (sl := 5) (tc := 1) (fin := 0) (z := 0) (by decide +kernel) (by decide +kernel) (by decide +kernel)).trans <| bd_cg fun w1 hw1 =>
  (l_iload_n (show gPG 119 180 = some (.iload_n 1) by decide +kernel) rfl).trans <|
  (l_iconst (show gPG 119 181 = some (.iconst 1) by decide +kernel) (c := 1) (by decide +kernel)).trans <|
  l_callV (u := 1) (v := w1) (as := [.int i1, .int 1]) (show gPG 119 182 = some (jinvI 1 126) by decide +kernel) (by decide) (cc := 122) (na := 3) (kd := 8) (q4 := 0) (z := 11) (rest := []) (by decide +kernel) (by decide +kernel)  rfl (show (3 : Nat) ≤ 3 by decide) rfl cs0 (by decide +kernel) (cai (cai (cav (jr_gR hw1) ca0)))) (
  (l_aload_n (show gPG 119 153 = some (.aload_n 0) by decide +kernel) rfl jr_ref).trans <|
  (l_gR (show gPG 119 154 = some (.getfield 12) by decide +kernel) (kd := 7) (sl := 0) (tc := 1) (fin := 1) (z := 0) (by decide +kernel) (by decide +kernel) (by decide +kernel)).trans <| bd_cg fun w3 hw3 =>
  (l_aload_n (show gPG 119 157 = some (.aload_n 0) by decide +kernel) rfl jr_ref).trans <|
  (l_gR (show gPG 119 158 = some (.getfield 25) by decide +kernel) (kd := 7) (sl := 2) (tc := 1) (fin := 0) (z := 0) (by decide +kernel) (by decide +kernel) (by decide +kernel)).trans <| bd_cg fun w4 hw4 =>
  (l_aload_n (show gPG 119 161 = some (.aload_n 0) by decide +kernel) rfl jr_ref).trans <|
  (l_gI (show gPG 119 162 = some (.getfield 66) by decide +kernel) (kd := 7) (sl := 7) (tc := 0) (fin := 0) (z := 0) (by decide +kernel) (by decide +kernel) (by decide +kernel)).trans <| bd_cg fun x5 hx5 =>
  (l_aload_n (show gPG 119 165 = some (.aload_n 0) by decide +kernel) rfl jr_ref).trans <|
  (l_gI (show gPG 119 166 = some (.getfield 75) by decide +kernel) (kd := 7) (sl := 10) (tc := 0) (fin := 0) (z := 0) (by decide +kernel) (by decide +kernel) (by decide +kernel)).trans <| bd_cg fun x6 hx6 =>
  (l_iload_n (show gPG 119 169 = some (.iload_n 1) by decide +kernel) rfl).trans <|
  l_callV (u := 1) (v := w3) (as := [w4, .int x5, .int x6, .int i1]) (show gPG 119 170 = some (jinvI 1 107) by decide +kernel) (by decide) (cc := 109) (na := 5) (kd := 6) (q4 := 0) (z := 11) (rest := []) (by decide +kernel) (by decide +kernel)  rfl (show (5 : Nat) ≤ 5 by decide) rfl cs0 (by decide +kernel) (cai (cai (cai (cav (jr_gR hw4) (cav (jr_gR hw3) ca0))))))
theorem b119_173 (d : Nat) (μ : jM) (u0 : Value) (u1 : Value) (u2 : Value) (u3 : Value) (u4 : Value) (u5 : Value) (u6 : Value) : jR d 119 173 [u0, u1, u2, u3, u4, u5, u6] [] μ = jR d 119 253 [u0, u1, u2, u3, u4, u5, u6] [] μ :=
  l_goto (show gPG 119 173 = some (.goto 80) by decide +kernel) (t := 253) (by decide +kernel)
theorem b119_185 (d : Nat) (μ : jM) (a : Nat) (i1 : Int32) (i2 : Int32) (i3 : Int32) (i4 : Int32) (u5 : Value) (u6 : Value) (s0 : Int32) : jR (d + 1) 119 185 [.ref a, .int i1, .int i2, .int i3, .int i4, u5, u6] [.int s0] μ = (if s0 = 0 then (jgR μ 7 5 (.ref a)).bind fun w1 => (if jrecv μ 8 w1 = true then (jC d 122 [w1, .int i1, .int 2] μ).bind fun p2 => jR (d + 1) 119 197 [.ref a, .int i1, .int i2, .int i3, .int i4, u5, u6] (p2.1.toList ++ []) p2.2 else none) else jR (d + 1) 119 210 [.ref a, .int i1, .int i2, .int i3, .int i4, u5, u6] [] μ) :=
  (l_cmp0 (show gPG 119 185 = some (.ifCond .ne 25) by decide +kernel) (t := 210) (by decide +kernel)).trans <| jm_ne.trans <| ite_cg (
  (l_aload_n (show gPG 119 188 = some (.aload_n 0) by decide +kernel) rfl jr_ref).trans <|
  (l_gR (show gPG 119 189 = some (.getfield 34) by decide +kernel) (kd := 7) (sl := 5) (tc := 1) (fin := 0) (z := 0) (by decide +kernel) (by decide +kernel) (by decide +kernel)).trans <| bd_cg fun w1 hw1 =>
  (l_iload_n (show gPG 119 192 = some (.iload_n 1) by decide +kernel) rfl).trans <|
  (l_iconst (show gPG 119 193 = some (.iconst 2) by decide +kernel) (c := 2) (by decide +kernel)).trans <|
  l_callV (u := 1) (v := w1) (as := [.int i1, .int 2]) (show gPG 119 194 = some (jinvI 1 126) by decide +kernel) (by decide) (cc := 122) (na := 3) (kd := 8) (q4 := 0) (z := 11) (rest := []) (by decide +kernel) (by decide +kernel)  rfl (show (3 : Nat) ≤ 3 by decide) rfl cs0 (by decide +kernel) (cai (cai (cav (jr_gR hw1) ca0)))) (
  rfl)
theorem b119_197 (d : Nat) (μ : jM) (a : Nat) (i1 : Int32) (i2 : Int32) (i3 : Int32) (i4 : Int32) (u5 : Value) (u6 : Value) (s0 : Int32) : jR d 119 197 [.ref a, .int i1, .int i2, .int i3, .int i4, u5, u6] [.int s0] μ = (if s0 = 0 then jR d 119 233 [.ref a, .int i1, .int i2, .int i3, .int i4, u5, u6] [] μ else (if i2 = 0 then jR d 119 233 [.ref a, .int i1, .int i2, .int i3, .int i4, u5, u6] [] μ else (if i3 < i4 then jR d 119 210 [.ref a, .int i1, .int i2, .int i3, .int i4, u5, u6] [] μ else jR d 119 233 [.ref a, .int i1, .int i2, .int i3, .int i4, u5, u6] [] μ))) :=
  (l_cmp0 (show gPG 119 197 = some (.ifCond .eq 36) by decide +kernel) (t := 233) (by decide +kernel)).trans <| jm_eq.trans <| ite_cg (
  rfl) (
  (l_iload_n (show gPG 119 200 = some (.iload_n 2) by decide +kernel) rfl).trans <|
  (l_cmp0 (show gPG 119 201 = some (.ifCond .eq 32) by decide +kernel) (t := 233) (by decide +kernel)).trans <| jm_eq.trans <| ite_cg (
  rfl) (
  (l_iload (show gPG 119 204 = some (.iload 4) by decide +kernel) rfl).trans <|
  (l_iload_n (show gPG 119 206 = some (.iload_n 3) by decide +kernel) rfl).trans <|
  (l_cmp (show gPG 119 207 = some (.if_icmp .le 26) by decide +kernel) (t := 233) (by decide +kernel)).trans <| jm_le.trans <| ite_cg (
  rfl) (
  rfl)))
theorem b119_210 (d : Nat) (μ : jM) (a : Nat) (i1 : Int32) (u2 : Value) (u3 : Value) (u4 : Value) (u5 : Value) (u6 : Value) : jR (d + 1) 119 210 [.ref a, .int i1, u2, u3, u4, u5, u6] [] μ = (jgR μ 7 0 (.ref a)).bind fun w1 => (jgR μ 7 4 (.ref a)).bind fun w2 => (jgI μ 7 9 (.ref a)).bind fun x3 => (jgI μ 7 10 (.ref a)).bind fun x4 => (if jrecv μ 6 w1 = true then (jC d 109 [w1, w2, .int x3, .int x4, .int i1] μ).bind fun p5 => jR (d + 1) 119 230 [.ref a, .int i1, u2, u3, u4, u5, u6] (p5.1.toList ++ []) p5.2 else none) :=
  (l_aload_n (show gPG 119 210 = some (.aload_n 0) by decide +kernel) rfl jr_ref).trans <|
  (l_gR (show gPG 119 211 = some (.getfield 12) by decide +kernel) (kd := 7) (sl := 0) (tc := 1) (fin := 1) (z := 0) (by decide +kernel) (by decide +kernel) (by decide +kernel)).trans <| bd_cg fun w1 hw1 =>
  (l_aload_n (show gPG 119 214 = some (.aload_n 0) by decide +kernel) rfl jr_ref).trans <|
  (l_gR (show gPG 119 215 = some (.getfield 31) by decide +kernel) (kd := 7) (sl := 4) (tc := 1) (fin := 0) (z := 0) (by decide +kernel) (by decide +kernel) (by decide +kernel)).trans <| bd_cg fun w2 hw2 =>
  (l_aload_n (show gPG 119 218 = some (.aload_n 0) by decide +kernel) rfl jr_ref).trans <|
  (l_gI (show gPG 119 219 = some (.getfield 72) by decide +kernel) (kd := 7) (sl := 9) (tc := 0) (fin := 0) (z := 0) (by decide +kernel) (by decide +kernel) (by decide +kernel)).trans <| bd_cg fun x3 hx3 =>
  (l_aload_n (show gPG 119 222 = some (.aload_n 0) by decide +kernel) rfl jr_ref).trans <|
  (l_gI (show gPG 119 223 = some (.getfield 75) by decide +kernel) (kd := 7) (sl := 10) (tc := 0) (fin := 0) (z := 0) (by decide +kernel) (by decide +kernel) (by decide +kernel)).trans <| bd_cg fun x4 hx4 =>
  (l_iload_n (show gPG 119 226 = some (.iload_n 1) by decide +kernel) rfl).trans <|
  l_callV (u := 1) (v := w1) (as := [w2, .int x3, .int x4, .int i1]) (show gPG 119 227 = some (jinvI 1 107) by decide +kernel) (by decide) (cc := 109) (na := 5) (kd := 6) (q4 := 0) (z := 11) (rest := []) (by decide +kernel) (by decide +kernel)  rfl (show (5 : Nat) ≤ 5 by decide) rfl cs0 (by decide +kernel) (cai (cai (cai (cav (jr_gR hw2) (cav (jr_gR hw1) ca0)))))
theorem b119_230 (d : Nat) (μ : jM) (u0 : Value) (u1 : Value) (u2 : Value) (u3 : Value) (u4 : Value) (u5 : Value) (u6 : Value) : jR d 119 230 [u0, u1, u2, u3, u4, u5, u6] [] μ = jR d 119 253 [u0, u1, u2, u3, u4, u5, u6] [] μ :=
  l_goto (show gPG 119 230 = some (.goto 23) by decide +kernel) (t := 253) (by decide +kernel)
theorem b119_233 (d : Nat) (μ : jM) (a : Nat) (i1 : Int32) (u2 : Value) (u3 : Value) (u4 : Value) (u5 : Value) (u6 : Value) : jR (d + 1) 119 233 [.ref a, .int i1, u2, u3, u4, u5, u6] [] μ = (jgR μ 7 0 (.ref a)).bind fun w1 => (jgR μ 7 3 (.ref a)).bind fun w2 => (jgI μ 7 8 (.ref a)).bind fun x3 => (jgI μ 7 10 (.ref a)).bind fun x4 => (if jrecv μ 6 w1 = true then (jC d 109 [w1, w2, .int x3, .int x4, .int i1] μ).bind fun p5 => jR (d + 1) 119 253 [.ref a, .int i1, u2, u3, u4, u5, u6] (p5.1.toList ++ []) p5.2 else none) :=
  (l_aload_n (show gPG 119 233 = some (.aload_n 0) by decide +kernel) rfl jr_ref).trans <|
  (l_gR (show gPG 119 234 = some (.getfield 12) by decide +kernel) (kd := 7) (sl := 0) (tc := 1) (fin := 1) (z := 0) (by decide +kernel) (by decide +kernel) (by decide +kernel)).trans <| bd_cg fun w1 hw1 =>
  (l_aload_n (show gPG 119 237 = some (.aload_n 0) by decide +kernel) rfl jr_ref).trans <|
  (l_gR (show gPG 119 238 = some (.getfield 28) by decide +kernel) (kd := 7) (sl := 3) (tc := 1) (fin := 0) (z := 0) (by decide +kernel) (by decide +kernel) (by decide +kernel)).trans <| bd_cg fun w2 hw2 =>
  (l_aload_n (show gPG 119 241 = some (.aload_n 0) by decide +kernel) rfl jr_ref).trans <|
  (l_gI (show gPG 119 242 = some (.getfield 69) by decide +kernel) (kd := 7) (sl := 8) (tc := 0) (fin := 0) (z := 0) (by decide +kernel) (by decide +kernel) (by decide +kernel)).trans <| bd_cg fun x3 hx3 =>
  (l_aload_n (show gPG 119 245 = some (.aload_n 0) by decide +kernel) rfl jr_ref).trans <|
  (l_gI (show gPG 119 246 = some (.getfield 75) by decide +kernel) (kd := 7) (sl := 10) (tc := 0) (fin := 0) (z := 0) (by decide +kernel) (by decide +kernel) (by decide +kernel)).trans <| bd_cg fun x4 hx4 =>
  (l_iload_n (show gPG 119 249 = some (.iload_n 1) by decide +kernel) rfl).trans <|
  l_callV (u := 1) (v := w1) (as := [w2, .int x3, .int x4, .int i1]) (show gPG 119 250 = some (jinvI 1 107) by decide +kernel) (by decide) (cc := 109) (na := 5) (kd := 6) (q4 := 0) (z := 11) (rest := []) (by decide +kernel) (by decide +kernel)  rfl (show (5 : Nat) ≤ 5 by decide) rfl cs0 (by decide +kernel) (cai (cai (cai (cav (jr_gR hw2) (cav (jr_gR hw1) ca0)))))
theorem b119_253 (d : Nat) (μ : jM) (u0 : Value) (u1 : Value) (u2 : Value) (u3 : Value) (u4 : Value) (u5 : Value) (u6 : Value) : jR d 119 253 [u0, u1, u2, u3, u4, u5, u6] [] μ = some (none, μ) :=
  l_ret (show gPG 119 253 = some (.return_) by decide +kernel) (by decide +kernel)
-- Merging.mergeNote
theorem b120_0 (d : Nat) (μ : jM) (a : Nat) (i1 : Int32) : jR (d + 1) 120 0 [.ref a, .int i1, .retAddr 0, .retAddr 0, .retAddr 0] [] μ = (jgR μ 7 2 (.ref a)).bind fun w1 => (jgI μ 7 7 (.ref a)).bind fun x2 => (if jrecv μ 6 w1 = true then (jC d 99 [w1, .int x2, .int i1] μ).bind fun p3 => jR (d + 1) 120 12 [.ref a, .int i1, .retAddr 0, .retAddr 0, .retAddr 0] (p3.1.toList ++ []) p3.2 else none) :=
  (l_aload_n (show gPG 120 0 = some (.aload_n 0) by decide +kernel) rfl jr_ref).trans <|
  (l_gR (show gPG 120 1 = some (.getfield 25) by decide +kernel) (kd := 7) (sl := 2) (tc := 1) (fin := 0) (z := 0) (by decide +kernel) (by decide +kernel) (by decide +kernel)).trans <| bd_cg fun w1 hw1 =>
  (l_aload_n (show gPG 120 4 = some (.aload_n 0) by decide +kernel) rfl jr_ref).trans <|
  (l_gI (show gPG 120 5 = some (.getfield 66) by decide +kernel) (kd := 7) (sl := 7) (tc := 0) (fin := 0) (z := 0) (by decide +kernel) (by decide +kernel) (by decide +kernel)).trans <| bd_cg fun x2 hx2 =>
  (l_iload_n (show gPG 120 8 = some (.iload_n 1) by decide +kernel) rfl).trans <|
  l_callV (u := 1) (v := w1) (as := [.int x2, .int i1]) (show gPG 120 9 = some (jinvI 1 146) by decide +kernel) (by decide) (cc := 99) (na := 3) (kd := 6) (q4 := 0) (z := 11) (rest := []) (by decide +kernel) (by decide +kernel)  rfl (show (3 : Nat) ≤ 3 by decide) rfl cs0 (by decide +kernel) (cai (cai (cav (jr_gR hw1) ca0)))
theorem b120_12 (d : Nat) (μ : jM) (a : Nat) (i1 : Int32) (u2 : Value) (u3 : Value) (u4 : Value) (s0 : Int32) : jR (d + 1) 120 12 [.ref a, .int i1, u2, u3, u4] [.int s0] μ = (jgR μ 7 3 (.ref a)).bind fun w1 => (jgI μ 7 8 (.ref a)).bind fun x2 => (if jrecv μ 6 w1 = true then (jC d 99 [w1, .int x2, .int i1] μ).bind fun p3 => jR (d + 1) 120 25 [.ref a, .int i1, .int s0, u3, u4] (p3.1.toList ++ []) p3.2 else none) :=
  (l_istore_n (show gPG 120 12 = some (.istore_n 2) by decide +kernel) (ls := [.ref a, .int i1, u2, u3, u4]) (show (2 : Nat) < 5 by decide) (show _ = ([.ref a, .int i1, .int s0, u3, u4] : List Value) from rfl)).trans <|
  (l_aload_n (show gPG 120 13 = some (.aload_n 0) by decide +kernel) rfl jr_ref).trans <|
  (l_gR (show gPG 120 14 = some (.getfield 28) by decide +kernel) (kd := 7) (sl := 3) (tc := 1) (fin := 0) (z := 0) (by decide +kernel) (by decide +kernel) (by decide +kernel)).trans <| bd_cg fun w1 hw1 =>
  (l_aload_n (show gPG 120 17 = some (.aload_n 0) by decide +kernel) rfl jr_ref).trans <|
  (l_gI (show gPG 120 18 = some (.getfield 69) by decide +kernel) (kd := 7) (sl := 8) (tc := 0) (fin := 0) (z := 0) (by decide +kernel) (by decide +kernel) (by decide +kernel)).trans <| bd_cg fun x2 hx2 =>
  (l_iload_n (show gPG 120 21 = some (.iload_n 1) by decide +kernel) rfl).trans <|
  l_callV (u := 1) (v := w1) (as := [.int x2, .int i1]) (show gPG 120 22 = some (jinvI 1 146) by decide +kernel) (by decide) (cc := 99) (na := 3) (kd := 6) (q4 := 0) (z := 11) (rest := []) (by decide +kernel) (by decide +kernel)  rfl (show (3 : Nat) ≤ 3 by decide) rfl cs0 (by decide +kernel) (cai (cai (cav (jr_gR hw1) ca0)))
theorem b120_25 (d : Nat) (μ : jM) (a : Nat) (i1 : Int32) (i2 : Int32) (u3 : Value) (u4 : Value) (s0 : Int32) : jR (d + 1) 120 25 [.ref a, .int i1, .int i2, u3, u4] [.int s0] μ = (jgR μ 7 4 (.ref a)).bind fun w1 => (jgI μ 7 9 (.ref a)).bind fun x2 => (if jrecv μ 6 w1 = true then (jC d 99 [w1, .int x2, .int i1] μ).bind fun p3 => jR (d + 1) 120 38 [.ref a, .int i1, .int i2, .int s0, u4] (p3.1.toList ++ []) p3.2 else none) :=
  (l_istore_n (show gPG 120 25 = some (.istore_n 3) by decide +kernel) (ls := [.ref a, .int i1, .int i2, u3, u4]) (show (3 : Nat) < 5 by decide) (show _ = ([.ref a, .int i1, .int i2, .int s0, u4] : List Value) from rfl)).trans <|
  (l_aload_n (show gPG 120 26 = some (.aload_n 0) by decide +kernel) rfl jr_ref).trans <|
  (l_gR (show gPG 120 27 = some (.getfield 31) by decide +kernel) (kd := 7) (sl := 4) (tc := 1) (fin := 0) (z := 0) (by decide +kernel) (by decide +kernel) (by decide +kernel)).trans <| bd_cg fun w1 hw1 =>
  (l_aload_n (show gPG 120 30 = some (.aload_n 0) by decide +kernel) rfl jr_ref).trans <|
  (l_gI (show gPG 120 31 = some (.getfield 72) by decide +kernel) (kd := 7) (sl := 9) (tc := 0) (fin := 0) (z := 0) (by decide +kernel) (by decide +kernel) (by decide +kernel)).trans <| bd_cg fun x2 hx2 =>
  (l_iload_n (show gPG 120 34 = some (.iload_n 1) by decide +kernel) rfl).trans <|
  l_callV (u := 1) (v := w1) (as := [.int x2, .int i1]) (show gPG 120 35 = some (jinvI 1 146) by decide +kernel) (by decide) (cc := 99) (na := 3) (kd := 6) (q4 := 0) (z := 11) (rest := []) (by decide +kernel) (by decide +kernel)  rfl (show (3 : Nat) ≤ 3 by decide) rfl cs0 (by decide +kernel) (cai (cai (cav (jr_gR hw1) ca0)))
theorem b120_38 (d : Nat) (μ : jM) (a : Nat) (i1 : Int32) (i2 : Int32) (i3 : Int32) (u4 : Value) (s0 : Int32) : jR (d + 1) 120 38 [.ref a, .int i1, .int i2, .int i3, u4] [.int s0] μ = (if i3 = s0 then jR (d + 1) 120 52 [.ref a, .int i1, .int i2, .int i3, .int s0] [] μ else (if s0 = i2 then jR (d + 1) 120 52 [.ref a, .int i1, .int i2, .int i3, .int s0] [] μ else (if i3 = i2 then (jgR μ 7 0 (.ref a)).bind fun w4 => (jgI μ 7 10 (.ref a)).bind fun x5 => (if jrecv μ 6 w4 = true then (jC d 94 [w4, .int x5, .int i1, .int s0] μ).bind fun p6 => jR (d + 1) 120 87 [.ref a, .int i1, .int i2, .int i3, .int s0] (p6.1.toList ++ []) p6.2 else none) else (jgR μ 7 0 (.ref a)).bind fun w1 => (jgI μ 7 10 (.ref a)).bind fun x2 => (jC d 280 [.int i3, .int s0] μ).bind fun p3 => jR (d + 1) 120 105 [.ref a, .int i1, .int i2, .int i3, .int s0] (p3.1.toList ++ [.int i1, .int x2, w1]) p3.2))) :=
  (l_istore (show gPG 120 38 = some (.istore 4) by decide +kernel) (ls := [.ref a, .int i1, .int i2, .int i3, u4]) (show (4 : Nat) < 5 by decide) (show _ = ([.ref a, .int i1, .int i2, .int i3, .int s0] : List Value) from rfl)).trans <|
  (l_iload_n (show gPG 120 40 = some (.iload_n 3) by decide +kernel) rfl).trans <|
  (l_iload (show gPG 120 41 = some (.iload 4) by decide +kernel) rfl).trans <|
  (l_cmp (show gPG 120 43 = some (.if_icmp .eq 9) by decide +kernel) (t := 52) (by decide +kernel)).trans <| jm_eq.trans <| ite_cg (
  rfl) (
  (l_iload (show gPG 120 46 = some (.iload 4) by decide +kernel) rfl).trans <|
  (l_iload_n (show gPG 120 48 = some (.iload_n 2) by decide +kernel) rfl).trans <|
  (l_cmp (show gPG 120 49 = some (.if_icmp .ne 19) by decide +kernel) (t := 68) (by decide +kernel)).trans <| jm_ne.trans <| ite_cg (
  rfl) (
  (l_iload_n (show gPG 120 68 = some (.iload_n 3) by decide +kernel) rfl).trans <|
  (l_iload_n (show gPG 120 69 = some (.iload_n 2) by decide +kernel) rfl).trans <|
  (l_cmp (show gPG 120 70 = some (.if_icmp .ne 20) by decide +kernel) (t := 90) (by decide +kernel)).trans <| jm_ne.trans <| ite_cg (
  (l_aload_n (show gPG 120 73 = some (.aload_n 0) by decide +kernel) rfl jr_ref).trans <|
  (l_gR (show gPG 120 74 = some (.getfield 12) by decide +kernel) (kd := 7) (sl := 0) (tc := 1) (fin := 1) (z := 0) (by decide +kernel) (by decide +kernel) (by decide +kernel)).trans <| bd_cg fun w4 hw4 =>
  (l_aload_n (show gPG 120 77 = some (.aload_n 0) by decide +kernel) rfl jr_ref).trans <|
  (l_gI (show gPG 120 78 = some (.getfield 75) by decide +kernel) (kd := 7) (sl := 10) (tc := 0) (fin := 0) (z := 0) (by decide +kernel) (by decide +kernel) (by decide +kernel)).trans <| bd_cg fun x5 hx5 =>
  (l_iload_n (show gPG 120 81 = some (.iload_n 1) by decide +kernel) rfl).trans <|
  (l_iload (show gPG 120 82 = some (.iload 4) by decide +kernel) rfl).trans <|
  l_callV (u := 1) (v := w4) (as := [.int x5, .int i1, .int s0]) (show gPG 120 84 = some (jinvI 1 149) by decide +kernel) (by decide) (cc := 94) (na := 4) (kd := 6) (q4 := 0) (z := 11) (rest := []) (by decide +kernel) (by decide +kernel)  rfl (show (4 : Nat) ≤ 4 by decide) rfl cs0 (by decide +kernel) (cai (cai (cai (cav (jr_gR hw4) ca0))))) (
  (l_aload_n (show gPG 120 90 = some (.aload_n 0) by decide +kernel) rfl jr_ref).trans <|
  (l_gR (show gPG 120 91 = some (.getfield 12) by decide +kernel) (kd := 7) (sl := 0) (tc := 1) (fin := 1) (z := 0) (by decide +kernel) (by decide +kernel) (by decide +kernel)).trans <| bd_cg fun w1 hw1 =>
  (l_aload_n (show gPG 120 94 = some (.aload_n 0) by decide +kernel) rfl jr_ref).trans <|
  (l_gI (show gPG 120 95 = some (.getfield 75) by decide +kernel) (kd := 7) (sl := 10) (tc := 0) (fin := 0) (z := 0) (by decide +kernel) (by decide +kernel) (by decide +kernel)).trans <| bd_cg fun x2 hx2 =>
  (l_iload_n (show gPG 120 98 = some (.iload_n 1) by decide +kernel) rfl).trans <|
  (l_iload_n (show gPG 120 99 = some (.iload_n 3) by decide +kernel) rfl).trans <|
  (l_iload (show gPG 120 100 = some (.iload 4) by decide +kernel) rfl).trans <|
  l_callS (u := 2) (as := [.int i3, .int s0]) (show gPG 120 102 = some (jinvI 2 152) by decide +kernel) (by decide) (cc := 280) (na := 2) (q4 := 0) (z := 12) (rest := [.int i1, .int x2, w1]) (by decide +kernel) (by decide +kernel)  rfl (show (2 : Nat) ≤ 5 by decide) rfl (csi (csi (csv (jr_gR hw1) cs0))) (by decide +kernel) (cai (cai ca0)) (fun e => absurd e (by decide)))))
theorem b120_52 (d : Nat) (μ : jM) (a : Nat) (i1 : Int32) (u2 : Value) (i3 : Int32) (u4 : Value) : jR (d + 1) 120 52 [.ref a, .int i1, u2, .int i3, u4] [] μ = (jgR μ 7 0 (.ref a)).bind fun w1 => (jgI μ 7 10 (.ref a)).bind fun x2 => (if jrecv μ 6 w1 = true then (jC d 94 [w1, .int x2, .int i1, .int i3] μ).bind fun p3 => jR (d + 1) 120 65 [.ref a, .int i1, u2, .int i3, u4] (p3.1.toList ++ []) p3.2 else none) :=
  (l_aload_n (show gPG 120 52 = some (.aload_n 0) by decide +kernel) rfl jr_ref).trans <|
  (l_gR (show gPG 120 53 = some (.getfield 12) by decide +kernel) (kd := 7) (sl := 0) (tc := 1) (fin := 1) (z := 0) (by decide +kernel) (by decide +kernel) (by decide +kernel)).trans <| bd_cg fun w1 hw1 =>
  (l_aload_n (show gPG 120 56 = some (.aload_n 0) by decide +kernel) rfl jr_ref).trans <|
  (l_gI (show gPG 120 57 = some (.getfield 75) by decide +kernel) (kd := 7) (sl := 10) (tc := 0) (fin := 0) (z := 0) (by decide +kernel) (by decide +kernel) (by decide +kernel)).trans <| bd_cg fun x2 hx2 =>
  (l_iload_n (show gPG 120 60 = some (.iload_n 1) by decide +kernel) rfl).trans <|
  (l_iload_n (show gPG 120 61 = some (.iload_n 3) by decide +kernel) rfl).trans <|
  l_callV (u := 1) (v := w1) (as := [.int x2, .int i1, .int i3]) (show gPG 120 62 = some (jinvI 1 149) by decide +kernel) (by decide) (cc := 94) (na := 4) (kd := 6) (q4 := 0) (z := 11) (rest := []) (by decide +kernel) (by decide +kernel)  rfl (show (4 : Nat) ≤ 4 by decide) rfl cs0 (by decide +kernel) (cai (cai (cai (cav (jr_gR hw1) ca0))))
theorem b120_65 (d : Nat) (μ : jM) (u0 : Value) (u1 : Value) (u2 : Value) (u3 : Value) (u4 : Value) : jR d 120 65 [u0, u1, u2, u3, u4] [] μ = jR d 120 121 [u0, u1, u2, u3, u4] [] μ :=
  l_goto (show gPG 120 65 = some (.goto 56) by decide +kernel) (t := 121) (by decide +kernel)
theorem b120_87 (d : Nat) (μ : jM) (u0 : Value) (u1 : Value) (u2 : Value) (u3 : Value) (u4 : Value) : jR d 120 87 [u0, u1, u2, u3, u4] [] μ = jR d 120 121 [u0, u1, u2, u3, u4] [] μ :=
  l_goto (show gPG 120 87 = some (.goto 34) by decide +kernel) (t := 121) (by decide +kernel)
theorem b120_105 (d : Nat) (μ : jM) (a : Nat) (i1 : Int32) (u2 : Value) (u3 : Value) (u4 : Value) (s0 : Value) (s1 : Int32) (s2 : Int32) (s3 : Int32) (hs0 : jisref s0 = true) : jR (d + 1) 120 105 [.ref a, .int i1, u2, u3, u4] [.int s3, .int s2, .int s1, s0] μ = (if jrecv μ 6 s0 = true then (jC d 94 [s0, .int s1, .int s2, .int s3] μ).bind fun p1 => jR (d + 1) 120 108 [.ref a, .int i1, u2, u3, u4] (p1.1.toList ++ []) p1.2 else none) :=
  l_callV (u := 1) (v := s0) (as := [.int s1, .int s2, .int s3]) (show gPG 120 105 = some (jinvI 1 149) by decide +kernel) (by decide) (cc := 94) (na := 4) (kd := 6) (q4 := 0) (z := 11) (rest := []) (by decide +kernel) (by decide +kernel)  rfl (show (4 : Nat) ≤ 4 by decide) rfl cs0 (by decide +kernel) (cai (cai (cai (cav hs0 ca0))))
theorem b120_108 (d : Nat) (μ : jM) (a : Nat) (i1 : Int32) (u2 : Value) (u3 : Value) (u4 : Value) : jR (d + 1) 120 108 [.ref a, .int i1, u2, u3, u4] [] μ = (jgR μ 7 1 (.ref a)).bind fun w1 => (jgI μ 7 6 (.ref a)).bind fun x2 => (if jrecv μ 4 w1 = true then (jC d 76 [w1, .int 3, .int x2, .int i1] μ).bind fun p3 => jR (d + 1) 120 121 [.ref a, .int i1, u2, u3, u4] (p3.1.toList ++ []) p3.2 else none) :=
  (l_aload_n (show gPG 120 108 = some (.aload_n 0) by decide +kernel) rfl jr_ref).trans <|
  (l_gR (show gPG 120 109 = some (.getfield 21) by decide +kernel) (kd := 7) (sl := 1) (tc := 1) (fin := 1) (z := 0) (by decide +kernel) (by decide +kernel) (by decide +kernel)).trans <| bd_cg fun w1 hw1 =>
  (l_iconst (show gPG 120 112 = some (.iconst 3) by decide +kernel) (c := 3) (by decide +kernel)).trans <|
  (l_aload_n (show gPG 120 113 = some (.aload_n 0) by decide +kernel) rfl jr_ref).trans <|
  (l_gI (show gPG 120 114 = some (.getfield 63) by decide +kernel) (kd := 7) (sl := 6) (tc := 0) (fin := 0) (z := 0) (by decide +kernel) (by decide +kernel) (by decide +kernel)).trans <| bd_cg fun x2 hx2 =>
  (l_iload_n (show gPG 120 117 = some (.iload_n 1) by decide +kernel) rfl).trans <|
  l_callV (u := 1) (v := w1) (as := [.int 3, .int x2, .int i1]) (show gPG 120 118 = some (jinvI 1 93) by decide +kernel) (by decide) (cc := 76) (na := 4) (kd := 4) (q4 := 0) (z := 11) (rest := []) (by decide +kernel) (by decide +kernel)  rfl (show (4 : Nat) ≤ 4 by decide) rfl cs0 (by decide +kernel) (cai (cai (cai (cav (jr_gR hw1) ca0))))
theorem b120_121 (d : Nat) (μ : jM) (u0 : Value) (u1 : Value) (u2 : Value) (u3 : Value) (u4 : Value) : jR d 120 121 [u0, u1, u2, u3, u4] [] μ = some (none, μ) :=
  l_ret (show gPG 120 121 = some (.return_) by decide +kernel) (by decide +kernel)
-- Rules.init
theorem b121_0 (d : Nat) (μ : jM) (a : Nat) : jR (d + 1) 121 0 [.ref a] [] μ = (jpR ((jnew μ 20 3 3)) 8 0 (.ref a) ((.ref (jsz μ)))).bind fun m1 => (jpR ((jnew m1 20 3 3)) 8 1 (.ref a) ((.ref (jsz m1)))).bind fun m2 => some (none, m2) :=
  (l_aload_n (show gPG 121 0 = some (.aload_n 0) by decide +kernel) rfl jr_ref).trans <|
  (l_obj (u := 3) (show gPG 121 1 = some (jinvI 3 3) by decide +kernel) (by decide) (q2 := 99) (q3 := 0) (z := 18) (by decide +kernel) (by decide +kernel) cs0 (by decide +kernel)).trans <|
  (l_aload_n (show gPG 121 4 = some (.aload_n 0) by decide +kernel) rfl jr_ref).trans <|
  (l_iconst (show gPG 121 5 = some (.iconst 3) by decide +kernel) (c := 3) (by decide +kernel)).trans <|
  (l_newaK (show gPG 121 6 = some (.newarray .int) by decide +kernel) (kd := 20) (N := 3) rfl (by decide +kernel)).trans <|
  (l_pR (show gPG 121 8 = some (.putfield 9) by decide +kernel) (kd := 8) (sl := 0) (tc := 1) (fin := 1) (z := 0) (by decide +kernel) (by decide +kernel) (by decide +kernel) jr_ref).trans <| bd_cg fun m1 hm1 =>
  (l_aload_n (show gPG 121 11 = some (.aload_n 0) by decide +kernel) rfl jr_ref).trans <|
  (l_iconst (show gPG 121 12 = some (.iconst 3) by decide +kernel) (c := 3) (by decide +kernel)).trans <|
  (l_newaK (show gPG 121 13 = some (.newarray .int) by decide +kernel) (kd := 20) (N := 3) rfl (by decide +kernel)).trans <|
  (l_pR (show gPG 121 15 = some (.putfield 15) by decide +kernel) (kd := 8) (sl := 1) (tc := 1) (fin := 1) (z := 0) (by decide +kernel) (by decide +kernel) (by decide +kernel) jr_ref).trans <| bd_cg fun m2 hm2 =>
  l_ret (show gPG 121 18 = some (.return_) by decide +kernel) (by decide +kernel)
-- Rules.isOf
theorem b122_0 (d : Nat) (μ : jM) (a : Nat) (i1 : Int32) (i2 : Int32) : jR d 122 0 [.ref a, .int i1, .int i2, .retAddr 0, .retAddr 0] [] μ = (jgR μ 8 0 (.ref a)).bind fun w1 => (jaI μ w1 i1).bind fun x2 => jR d 122 10 [.ref a, .int i1, .int i2, .int x2, .int 0] [] μ :=
  (l_aload_n (show gPG 122 0 = some (.aload_n 0) by decide +kernel) rfl jr_ref).trans <|
  (l_gR (show gPG 122 1 = some (.getfield 9) by decide +kernel) (kd := 8) (sl := 0) (tc := 1) (fin := 1) (z := 0) (by decide +kernel) (by decide +kernel) (by decide +kernel)).trans <| bd_cg fun w1 hw1 =>
  (l_iload_n (show gPG 122 4 = some (.iload_n 1) by decide +kernel) rfl).trans <|
  (l_iald (show gPG 122 5 = some (.iaload) by decide +kernel) ).trans <| bd_cg fun x2 hx2 =>
  (l_istore_n (show gPG 122 6 = some (.istore_n 3) by decide +kernel) (ls := [.ref a, .int i1, .int i2, .retAddr 0, .retAddr 0]) (show (3 : Nat) < 5 by decide) (show _ = ([.ref a, .int i1, .int i2, .int x2, .retAddr 0] : List Value) from rfl)).trans <|
  (l_iconst (show gPG 122 7 = some (.iconst 0) by decide +kernel) (c := 0) (by decide +kernel)).trans <|
  l_istore (show gPG 122 8 = some (.istore 4) by decide +kernel) (ls := [.ref a, .int i1, .int i2, .int x2, .retAddr 0]) (show (4 : Nat) < 5 by decide) (show _ = ([.ref a, .int i1, .int i2, .int x2, .int 0] : List Value) from rfl)
theorem b122_10 (d : Nat) (μ : jM) (u0 : Value) (u1 : Value) (i2 : Int32) (i3 : Int32) (i4 : Int32) : jR (d + 1) 122 10 [u0, u1, .int i2, .int i3, .int i4] [] μ = (if i4 < 6 then (jC d 33 [.int i3] μ).bind fun p1 => jR (d + 1) 122 21 [u0, u1, .int i2, .int i3, .int i4] (p1.1.toList ++ []) p1.2 else jR (d + 1) 122 43 [u0, u1, .int i2, .int i3, .int i4] [] μ) :=
  (l_iload (show gPG 122 10 = some (.iload 4) by decide +kernel) rfl).trans <|
  (l_bipush (show gPG 122 12 = some (.bipush 6) by decide +kernel) (c := 6) (by decide +kernel)).trans <|
  (l_cmp (show gPG 122 14 = some (.if_icmp .ge 29) by decide +kernel) (t := 43) (by decide +kernel)).trans <| jm_ge.trans <| ite_cg (
  (l_iload_n (show gPG 122 17 = some (.iload_n 3) by decide +kernel) rfl).trans <|
  l_callS (u := 2) (as := [.int i3]) (show gPG 122 18 = some (jinvI 2 18) by decide +kernel) (by decide) (cc := 33) (na := 1) (q4 := 0) (z := 13) (rest := []) (by decide +kernel) (by decide +kernel)  rfl (show (1 : Nat) ≤ 1 by decide) rfl cs0 (by decide +kernel) (cai ca0) (fun e => absurd e (by decide))) (
  rfl)
theorem b122_21 (d : Nat) (μ : jM) (u0 : Value) (u1 : Value) (i2 : Int32) (i3 : Int32) (i4 : Int32) (s0 : Int32) (hx : jX μ) : jR d 122 21 [u0, u1, .int i2, .int i3, .int i4] [.int s0] μ = (if s0 = 0 then jR d 122 43 [u0, u1, .int i2, .int i3, .int i4] [] μ else (if i3 = i2 then some (some (.int 1), μ) else (jaI μ ((jext μ 7)) i3).bind fun x1 => jR d 122 10 [u0, u1, .int i2, .int x1, .int (i4 + 1)] [] μ)) :=
  (l_cmp0 (show gPG 122 21 = some (.ifCond .eq 22) by decide +kernel) (t := 43) (by decide +kernel)).trans <| jm_eq.trans <| ite_cg (
  rfl) (
  (l_iload_n (show gPG 122 24 = some (.iload_n 3) by decide +kernel) rfl).trans <|
  (l_iload_n (show gPG 122 25 = some (.iload_n 2) by decide +kernel) rfl).trans <|
  (l_cmp (show gPG 122 26 = some (.if_icmp .ne 5) by decide +kernel) (t := 31) (by decide +kernel)).trans <| jm_ne.trans <| ite_cg (
  (l_iconst (show gPG 122 29 = some (.iconst 1) by decide +kernel) (c := 1) (by decide +kernel)).trans <|
  l_iretK (show gPG 122 30 = some (.ireturn) by decide +kernel) (by decide +kernel)) (
  (l_gets (show gPG 122 31 = some (.getstatic 22) by decide +kernel) (j := 7) (by decide +kernel) (by decide +kernel)).trans <|
  (l_iload_n (show gPG 122 34 = some (.iload_n 3) by decide +kernel) rfl).trans <|
  (l_iald (show gPG 122 35 = some (.iaload) by decide +kernel) ).trans <| bd_cg fun x1 hx1 =>
  (l_istore_n (show gPG 122 36 = some (.istore_n 3) by decide +kernel) (ls := [u0, u1, .int i2, .int i3, .int i4]) (show (3 : Nat) < 5 by decide) (show _ = ([u0, u1, .int i2, .int x1, .int i4] : List Value) from rfl)).trans <|
  (l_iinc (show gPG 122 37 = some (.iinc 4 1) by decide +kernel) (c := 1) (by decide +kernel) rfl (show _ = ([u0, u1, .int i2, .int x1, .int (i4 + 1)] : List Value) from rfl)).trans <|
  l_goto (show gPG 122 40 = some (.goto (-30)) by decide +kernel) (t := 10) (by decide +kernel)))
theorem b122_43 (d : Nat) (μ : jM) (u0 : Value) (u1 : Value) (u2 : Value) (u3 : Value) (u4 : Value) : jR d 122 43 [u0, u1, u2, u3, u4] [] μ = some (some (.int 0), μ) :=
  (l_iconst (show gPG 122 43 = some (.iconst 0) by decide +kernel) (c := 0) (by decide +kernel)).trans <|
  l_iretK (show gPG 122 44 = some (.ireturn) by decide +kernel) (by decide +kernel)
-- Rules.become
theorem b123_0 (d : Nat) (μ : jM) (a : Nat) (r1 : Value) (h1 : jisref r1 = true) : jR (d + 1) 123 0 [.ref a, r1] [] μ = (jgR μ 8 0 r1).bind fun w1 => (jgR μ 8 0 (.ref a)).bind fun w2 => (jcp μ w1 0 w2 0 3).bind fun m3 => (jgR m3 8 1 r1).bind fun w4 => (jgR m3 8 1 (.ref a)).bind fun w5 => (jcp m3 w4 0 w5 0 3).bind fun m6 => some (none, m6) :=
  (l_aload_n (show gPG 123 0 = some (.aload_n 1) by decide +kernel) rfl h1).trans <|
  (l_gR (show gPG 123 1 = some (.getfield 9) by decide +kernel) (kd := 8) (sl := 0) (tc := 1) (fin := 1) (z := 0) (by decide +kernel) (by decide +kernel) (by decide +kernel)).trans <| bd_cg fun w1 hw1 =>
  (l_iconst (show gPG 123 4 = some (.iconst 0) by decide +kernel) (c := 0) (by decide +kernel)).trans <|
  (l_aload_n (show gPG 123 5 = some (.aload_n 0) by decide +kernel) rfl jr_ref).trans <|
  (l_gR (show gPG 123 6 = some (.getfield 9) by decide +kernel) (kd := 8) (sl := 0) (tc := 1) (fin := 1) (z := 0) (by decide +kernel) (by decide +kernel) (by decide +kernel)).trans <| bd_cg fun w2 hw2 =>
  (l_iconst (show gPG 123 9 = some (.iconst 0) by decide +kernel) (c := 0) (by decide +kernel)).trans <|
  (l_iconst (show gPG 123 10 = some (.iconst 3) by decide +kernel) (c := 3) (by decide +kernel)).trans <|
  (l_acp (show gPG 123 11 = some (.invokestatic 25) by decide +kernel) (q3 := 99) (q4 := 0) (z := 19) (by decide +kernel) (by decide +kernel) (jr_gR hw1) (jr_gR hw2) cs0 (by decide +kernel)).trans <| bd_cg fun m3 hm3 =>
  (l_aload_n (show gPG 123 14 = some (.aload_n 1) by decide +kernel) rfl h1).trans <|
  (l_gR (show gPG 123 15 = some (.getfield 15) by decide +kernel) (kd := 8) (sl := 1) (tc := 1) (fin := 1) (z := 0) (by decide +kernel) (by decide +kernel) (by decide +kernel)).trans <| bd_cg fun w4 hw4 =>
  (l_iconst (show gPG 123 18 = some (.iconst 0) by decide +kernel) (c := 0) (by decide +kernel)).trans <|
  (l_aload_n (show gPG 123 19 = some (.aload_n 0) by decide +kernel) rfl jr_ref).trans <|
  (l_gR (show gPG 123 20 = some (.getfield 15) by decide +kernel) (kd := 8) (sl := 1) (tc := 1) (fin := 1) (z := 0) (by decide +kernel) (by decide +kernel) (by decide +kernel)).trans <| bd_cg fun w5 hw5 =>
  (l_iconst (show gPG 123 23 = some (.iconst 0) by decide +kernel) (c := 0) (by decide +kernel)).trans <|
  (l_iconst (show gPG 123 24 = some (.iconst 3) by decide +kernel) (c := 3) (by decide +kernel)).trans <|
  (l_acp (show gPG 123 25 = some (.invokestatic 25) by decide +kernel) (q3 := 99) (q4 := 0) (z := 19) (by decide +kernel) (by decide +kernel) (jr_gR hw4) (jr_gR hw5) cs0 (by decide +kernel)).trans <| bd_cg fun m6 hm6 =>
  l_ret (show gPG 123 28 = some (.return_) by decide +kernel) (by decide +kernel)
-- Sheet.init
theorem b124_0 (d : Nat) (μ : jM) (a : Nat) : jR (d + 1) 124 0 [.ref a] [] μ = (jpI μ 9 0 0 (.ref a) (-1)).bind fun m1 => (jpR ((jnew m1 20 40 40)) 9 2 (.ref a) ((.ref (jsz m1)))).bind fun m2 => some (none, m2) :=
  (l_aload_n (show gPG 124 0 = some (.aload_n 0) by decide +kernel) rfl jr_ref).trans <|
  (l_obj (u := 3) (show gPG 124 1 = some (jinvI 3 3) by decide +kernel) (by decide) (q2 := 99) (q3 := 0) (z := 18) (by decide +kernel) (by decide +kernel) cs0 (by decide +kernel)).trans <|
  (l_aload_n (show gPG 124 4 = some (.aload_n 0) by decide +kernel) rfl jr_ref).trans <|
  (l_iconst (show gPG 124 5 = some (.iconst (-1)) by decide +kernel) (c := (-1)) (by decide +kernel)).trans <|
  (l_pI (show gPG 124 6 = some (.putfield 9) by decide +kernel) (kd := 9) (sl := 0) (tc := 0) (fin := 0) (z := 0) (by decide +kernel) (by decide +kernel) (by decide +kernel)).trans <| bd_cg fun m1 hm1 =>
  (l_aload_n (show gPG 124 9 = some (.aload_n 0) by decide +kernel) rfl jr_ref).trans <|
  (l_bipush (show gPG 124 10 = some (.bipush 40) by decide +kernel) (c := 40) (by decide +kernel)).trans <|
  (l_newaK (show gPG 124 12 = some (.newarray .int) by decide +kernel) (kd := 20) (N := 40) rfl (by decide +kernel)).trans <|
  (l_pR (show gPG 124 14 = some (.putfield 15) by decide +kernel) (kd := 9) (sl := 2) (tc := 1) (fin := 1) (z := 0) (by decide +kernel) (by decide +kernel) (by decide +kernel) jr_ref).trans <| bd_cg fun m2 hm2 =>
  l_ret (show gPG 124 17 = some (.return_) by decide +kernel) (by decide +kernel)
-- Sheet.isMissing
theorem b125_0 (d : Nat) (μ : jM) (a : Nat) : jR d 125 0 [.ref a] [] μ = (jgI μ 9 0 (.ref a)).bind fun x1 => (if x1 = (-1) then jR d 125 13 [.ref a] [.int 1] μ else jR d 125 13 [.ref a] [.int 0] μ) :=
  (l_aload_n (show gPG 125 0 = some (.aload_n 0) by decide +kernel) rfl jr_ref).trans <|
  (l_gI (show gPG 125 1 = some (.getfield 9) by decide +kernel) (kd := 9) (sl := 0) (tc := 0) (fin := 0) (z := 0) (by decide +kernel) (by decide +kernel) (by decide +kernel)).trans <| bd_cg fun x1 hx1 =>
  (l_iconst (show gPG 125 4 = some (.iconst (-1)) by decide +kernel) (c := (-1)) (by decide +kernel)).trans <|
  (l_cmp (show gPG 125 5 = some (.if_icmp .ne 7) by decide +kernel) (t := 12) (by decide +kernel)).trans <| jm_ne.trans <| ite_cg (
  (l_iconst (show gPG 125 8 = some (.iconst 1) by decide +kernel) (c := 1) (by decide +kernel)).trans <|
  l_goto (show gPG 125 9 = some (.goto 4) by decide +kernel) (t := 13) (by decide +kernel)) (
  l_iconst (show gPG 125 12 = some (.iconst 0) by decide +kernel) (c := 0) (by decide +kernel))
theorem b125_13 (d : Nat) (μ : jM) (u0 : Value) (s0 : Int32) : jR d 125 13 [u0] [.int s0] μ = (if jrf 4 s0 = true then some (some (.int s0), μ) else none) :=
  l_iret (show gPG 125 13 = some (.ireturn) by decide +kernel) (rc := 4) (by decide +kernel)
-- Sheet.become
theorem b126_0 (d : Nat) (μ : jM) (a : Nat) (i1 : Int32) (i2 : Int32) : jR (d + 1) 126 0 [.ref a, .int i1, .int i2] [] μ = (jpI μ 9 0 0 (.ref a) i1).bind fun m1 => (jpI m1 9 1 0 (.ref a) i2).bind fun m2 => (jgR m2 9 2 (.ref a)).bind fun w3 => (jC d 305 [w3, .int 0] m2).bind fun p4 => jR (d + 1) 126 18 [.ref a, .int i1, .int i2] (p4.1.toList ++ []) p4.2 :=
  (l_aload_n (show gPG 126 0 = some (.aload_n 0) by decide +kernel) rfl jr_ref).trans <|
  (l_iload_n (show gPG 126 1 = some (.iload_n 1) by decide +kernel) rfl).trans <|
  (l_pI (show gPG 126 2 = some (.putfield 9) by decide +kernel) (kd := 9) (sl := 0) (tc := 0) (fin := 0) (z := 0) (by decide +kernel) (by decide +kernel) (by decide +kernel)).trans <| bd_cg fun m1 hm1 =>
  (l_aload_n (show gPG 126 5 = some (.aload_n 0) by decide +kernel) rfl jr_ref).trans <|
  (l_iload_n (show gPG 126 6 = some (.iload_n 2) by decide +kernel) rfl).trans <|
  (l_pI (show gPG 126 7 = some (.putfield 19) by decide +kernel) (kd := 9) (sl := 1) (tc := 0) (fin := 0) (z := 0) (by decide +kernel) (by decide +kernel) (by decide +kernel)).trans <| bd_cg fun m2 hm2 =>
  (l_aload_n (show gPG 126 10 = some (.aload_n 0) by decide +kernel) rfl jr_ref).trans <|
  (l_gR (show gPG 126 11 = some (.getfield 15) by decide +kernel) (kd := 9) (sl := 2) (tc := 1) (fin := 1) (z := 0) (by decide +kernel) (by decide +kernel) (by decide +kernel)).trans <| bd_cg fun w3 hw3 =>
  (l_iconst (show gPG 126 14 = some (.iconst 0) by decide +kernel) (c := 0) (by decide +kernel)).trans <|
  l_callS (u := 2) (as := [w3, .int 0]) (show gPG 126 15 = some (jinvI 2 22) by decide +kernel) (by decide) (cc := 305) (na := 2) (q4 := 0) (z := 12) (rest := []) (by decide +kernel) (by decide +kernel)  rfl (show (2 : Nat) ≤ 2 by decide) rfl cs0 (by decide +kernel) (cai (cav (jr_gR hw3) ca0)) (fun e => absurd e (by decide))
theorem b126_18 (d : Nat) (μ : jM) (u0 : Value) (u1 : Value) (u2 : Value) : jR d 126 18 [u0, u1, u2] [] μ = some (none, μ) :=
  l_ret (show gPG 126 18 = some (.return_) by decide +kernel) (by decide +kernel)
-- Sheet.set
theorem b127_0 (d : Nat) (μ : jM) (a : Nat) (i1 : Int32) (i2 : Int32) : jR (d + 1) 127 0 [.ref a, .int i1, .int i2] [] μ = (if jrecv μ 9 (.ref a) = true then (jC d 128 [.ref a, .int i1, .int 1] μ).bind fun p1 => jR (d + 1) 127 6 [.ref a, .int i1, .int i2] (p1.1.toList ++ []) p1.2 else none) :=
  (l_aload_n (show gPG 127 0 = some (.aload_n 0) by decide +kernel) rfl jr_ref).trans <|
  (l_iload_n (show gPG 127 1 = some (.iload_n 1) by decide +kernel) rfl).trans <|
  (l_iconst (show gPG 127 2 = some (.iconst 1) by decide +kernel) (c := 1) (by decide +kernel)).trans <|
  l_callV (u := 1) (v := .ref a) (as := [.int i1, .int 1]) (show gPG 127 3 = some (jinvI 1 28) by decide +kernel) (by decide) (cc := 128) (na := 3) (kd := 9) (q4 := 0) (z := 10) (rest := []) (by decide +kernel) (by decide +kernel)  rfl (show (3 : Nat) ≤ 3 by decide) rfl cs0 (by decide +kernel) (cai (cai (cav jr_ref ca0)))
theorem b127_6 (d : Nat) (μ : jM) (a : Nat) (i1 : Int32) (i2 : Int32) (s0 : Int32) : jR d 127 6 [.ref a, .int i1, .int i2] [.int s0] μ = (if s0 = 0 then jR d 127 28 [.ref a, .int i1, .int i2] [] μ else (jgR μ 9 2 (.ref a)).bind fun w1 => (jgI μ 9 0 (.ref a)).bind fun x2 => (if x2 = 0 then jR d 127 27 [.ref a, .int i1, .int i2] [.int ((Int32.toInt16 i2).toInt32), .int i1, w1] μ else jR d 127 27 [.ref a, .int i1, .int i2] [.int i2, .int i1, w1] μ)) :=
  (l_cmp0 (show gPG 127 6 = some (.ifCond .eq 22) by decide +kernel) (t := 28) (by decide +kernel)).trans <| jm_eq.trans <| ite_cg (
  rfl) (
  (l_aload_n (show gPG 127 9 = some (.aload_n 0) by decide +kernel) rfl jr_ref).trans <|
  (l_gR (show gPG 127 10 = some (.getfield 15) by decide +kernel) (kd := 9) (sl := 2) (tc := 1) (fin := 1) (z := 0) (by decide +kernel) (by decide +kernel) (by decide +kernel)).trans <| bd_cg fun w1 hw1 =>
  (l_iload_n (show gPG 127 13 = some (.iload_n 1) by decide +kernel) rfl).trans <|
  (l_aload_n (show gPG 127 14 = some (.aload_n 0) by decide +kernel) rfl jr_ref).trans <|
  (l_gI (show gPG 127 15 = some (.getfield 9) by decide +kernel) (kd := 9) (sl := 0) (tc := 0) (fin := 0) (z := 0) (by decide +kernel) (by decide +kernel) (by decide +kernel)).trans <| bd_cg fun x2 hx2 =>
  (l_cmp0 (show gPG 127 18 = some (.ifCond .ne 8) by decide +kernel) (t := 26) (by decide +kernel)).trans <| jm_ne.trans <| ite_cg (
  (l_iload_n (show gPG 127 21 = some (.iload_n 2) by decide +kernel) rfl).trans <|
  (l_i2s (show gPG 127 22 = some (.i2s) by decide +kernel) ).trans <|
  l_goto (show gPG 127 23 = some (.goto 4) by decide +kernel) (t := 27) (by decide +kernel)) (
  l_iload_n (show gPG 127 26 = some (.iload_n 2) by decide +kernel) rfl))
theorem b127_27 (d : Nat) (μ : jM) (u0 : Value) (u1 : Value) (u2 : Value) (s0 : Value) (s1 : Int32) (s2 : Int32) (hs0 : jisref s0 = true) : jR d 127 27 [u0, u1, u2] [.int s2, .int s1, s0] μ = (jsI μ s0 s1 s2).bind fun m1 => jR d 127 28 [u0, u1, u2] [] m1 :=
  (l_iast (show gPG 127 27 = some (.iastore) by decide +kernel) ).trans <| bd_cg fun m1 hm1 =>
  rfl
theorem b127_28 (d : Nat) (μ : jM) (u0 : Value) (u1 : Value) (u2 : Value) : jR d 127 28 [u0, u1, u2] [] μ = some (none, μ) :=
  l_ret (show gPG 127 28 = some (.return_) by decide +kernel) (by decide +kernel)
-- Sheet.hasItems
theorem b128_0 (d : Nat) (μ : jM) (a : Nat) (i1 : Int32) (i2 : Int32) : jR d 128 0 [.ref a, .int i1, .int i2] [] μ = (if i1 < 0 then jR d 128 22 [.ref a, .int i1, .int i2] [] μ else (if i2 < 0 then jR d 128 22 [.ref a, .int i1, .int i2] [] μ else (jgI μ 9 1 (.ref a)).bind fun x1 => (if (x1 - i2) < i1 then jR d 128 22 [.ref a, .int i1, .int i2] [] μ else jR d 128 23 [.ref a, .int i1, .int i2] [.int 1] μ))) :=
  (l_iload_n (show gPG 128 0 = some (.iload_n 1) by decide +kernel) rfl).trans <|
  (l_cmp0 (show gPG 128 1 = some (.ifCond .lt 21) by decide +kernel) (t := 22) (by decide +kernel)).trans <| jm_lt.trans <| ite_cg (
  rfl) (
  (l_iload_n (show gPG 128 4 = some (.iload_n 2) by decide +kernel) rfl).trans <|
  (l_cmp0 (show gPG 128 5 = some (.ifCond .lt 17) by decide +kernel) (t := 22) (by decide +kernel)).trans <| jm_lt.trans <| ite_cg (
  rfl) (
  (l_iload_n (show gPG 128 8 = some (.iload_n 1) by decide +kernel) rfl).trans <|
  (l_aload_n (show gPG 128 9 = some (.aload_n 0) by decide +kernel) rfl jr_ref).trans <|
  (l_gI (show gPG 128 10 = some (.getfield 19) by decide +kernel) (kd := 9) (sl := 1) (tc := 0) (fin := 0) (z := 0) (by decide +kernel) (by decide +kernel) (by decide +kernel)).trans <| bd_cg fun x1 hx1 =>
  (l_iload_n (show gPG 128 13 = some (.iload_n 2) by decide +kernel) rfl).trans <|
  (l_isub (show gPG 128 14 = some (.isub) by decide +kernel) ).trans <|
  (l_cmp (show gPG 128 15 = some (.if_icmp .gt 7) by decide +kernel) (t := 22) (by decide +kernel)).trans <| jm_gt.trans <| ite_cg (
  rfl) (
  (l_iconst (show gPG 128 18 = some (.iconst 1) by decide +kernel) (c := 1) (by decide +kernel)).trans <|
  l_goto (show gPG 128 19 = some (.goto 4) by decide +kernel) (t := 23) (by decide +kernel))))
theorem b128_22 (d : Nat) (μ : jM) (u0 : Value) (u1 : Value) (u2 : Value) : jR d 128 22 [u0, u1, u2] [] μ = jR d 128 23 [u0, u1, u2] [.int 0] μ :=
  l_iconst (show gPG 128 22 = some (.iconst 0) by decide +kernel) (c := 0) (by decide +kernel)
theorem b128_23 (d : Nat) (μ : jM) (u0 : Value) (u1 : Value) (u2 : Value) (s0 : Int32) : jR d 128 23 [u0, u1, u2] [.int s0] μ = (if jrf 4 s0 = true then some (some (.int s0), μ) else none) :=
  l_iret (show gPG 128 23 = some (.ireturn) by decide +kernel) (rc := 4) (by decide +kernel)
