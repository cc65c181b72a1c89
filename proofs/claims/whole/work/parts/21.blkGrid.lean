/-! THE BLOCKS of Grid and Formula, laid by program -/
-- Formula.init
theorem b80_0 (d : Nat) (μ : jM) (a : Nat) (r1 : Value) (r2 : Value) (r3 : Value) (r4 : Value) (h1 : jisref r1 = true) (h2 : jisref r2 = true) (h3 : jisref r3 = true) (h4 : jisref r4 = true) : jR (d + 1) 80 0 [.ref a, r1, r2, r3, r4] [] μ = (jpR μ 5 0 (.ref a) r1).bind fun m1 => (jpR m1 5 1 (.ref a) r2).bind fun m2 => (jpR m2 5 2 (.ref a) r3).bind fun m3 => (jpR m3 5 3 (.ref a) r4).bind fun m4 => some (none, m4) :=
  (l_aload_n (show gPG 80 0 = some (.aload_n 0) by decide +kernel) rfl jr_ref).trans <|
  (l_obj (u := 3) (show gPG 80 1 = some (jinvI 3 3) by decide +kernel) (by decide) (q2 := 99) (q3 := 0) (z := 18) (by decide +kernel) (by decide +kernel) cs0 (by decide +kernel)).trans <|
  (l_aload_n (show gPG 80 4 = some (.aload_n 0) by decide +kernel) rfl jr_ref).trans <|
  (l_aload_n (show gPG 80 5 = some (.aload_n 1) by decide +kernel) rfl h1).trans <|
  (l_pR (show gPG 80 6 = some (.putfield 9) by decide +kernel) (kd := 5) (sl := 0) (tc := 1) (fin := 1) (z := 0) (by decide +kernel) (by decide +kernel) (by decide +kernel) h1).trans <| bd_cg fun m1 hm1 =>
  (l_aload_n (show gPG 80 9 = some (.aload_n 0) by decide +kernel) rfl jr_ref).trans <|
  (l_aload_n (show gPG 80 10 = some (.aload_n 2) by decide +kernel) rfl h2).trans <|
  (l_pR (show gPG 80 11 = some (.putfield 15) by decide +kernel) (kd := 5) (sl := 1) (tc := 1) (fin := 1) (z := 0) (by decide +kernel) (by decide +kernel) (by decide +kernel) h2).trans <| bd_cg fun m2 hm2 =>
  (l_aload_n (show gPG 80 14 = some (.aload_n 0) by decide +kernel) rfl jr_ref).trans <|
  (l_aload_n (show gPG 80 15 = some (.aload_n 3) by decide +kernel) rfl h3).trans <|
  (l_pR (show gPG 80 16 = some (.putfield 18) by decide +kernel) (kd := 5) (sl := 2) (tc := 1) (fin := 1) (z := 0) (by decide +kernel) (by decide +kernel) (by decide +kernel) h3).trans <| bd_cg fun m3 hm3 =>
  (l_aload_n (show gPG 80 19 = some (.aload_n 0) by decide +kernel) rfl jr_ref).trans <|
  (l_aload (show gPG 80 20 = some (.aload 4) by decide +kernel) rfl h4).trans <|
  (l_pR (show gPG 80 22 = some (.putfield 21) by decide +kernel) (kd := 5) (sl := 3) (tc := 1) (fin := 1) (z := 0) (by decide +kernel) (by decide +kernel) (by decide +kernel) h4).trans <| bd_cg fun m4 hm4 =>
  l_ret (show gPG 80 25 = some (.return_) by decide +kernel) (by decide +kernel)
-- Formula.lowered
theorem b81_0 (d : Nat) (μ : jM) (a : Nat) (r1 : Value) (i2 : Int32) (h1 : jisref r1 = true) : jR (d + 1) 81 0 [.ref a, r1, .int i2, .retAddr 0, .retAddr 0] [] μ = (jgR μ 5 2 (.ref a)).bind fun w1 => (jgR μ 5 2 (.ref a)).bind fun w2 => (jal μ w2).bind fun x3 => (jC d 304 [w1, .int x3] μ).bind fun p4 => jR (d + 1) 81 12 [.ref a, r1, .int i2, .retAddr 0, .retAddr 0] (p4.1.toList ++ []) p4.2 :=
  (l_aload_n (show gPG 81 0 = some (.aload_n 0) by decide +kernel) rfl jr_ref).trans <|
  (l_gR (show gPG 81 1 = some (.getfield 18) by decide +kernel) (kd := 5) (sl := 2) (tc := 1) (fin := 1) (z := 0) (by decide +kernel) (by decide +kernel) (by decide +kernel)).trans <| bd_cg fun w1 hw1 =>
  (l_aload_n (show gPG 81 4 = some (.aload_n 0) by decide +kernel) rfl jr_ref).trans <|
  (l_gR (show gPG 81 5 = some (.getfield 18) by decide +kernel) (kd := 5) (sl := 2) (tc := 1) (fin := 1) (z := 0) (by decide +kernel) (by decide +kernel) (by decide +kernel)).trans <| bd_cg fun w2 hw2 =>
  (l_alen (show gPG 81 8 = some (.arraylength) by decide +kernel) ).trans <| bd_cg fun x3 hx3 =>
  l_callS (u := 2) (as := [w1, .int x3]) (show gPG 81 9 = some (jinvI 2 28) by decide +kernel) (by decide) (cc := 304) (na := 2) (q4 := 0) (z := 12) (rest := []) (by decide +kernel) (by decide +kernel)  rfl (show (2 : Nat) ≤ 2 by decide) rfl cs0 (by decide +kernel) (cai (cav (jr_gR hw1) ca0)) (fun e => absurd e (by decide))
theorem b81_12 (d : Nat) (μ : jM) (a : Nat) (r1 : Value) (i2 : Int32) (u3 : Value) (u4 : Value) (s0 : Value) (h1 : jisref r1 = true) (hs0 : jisref s0 = true) : jR d 81 12 [.ref a, r1, .int i2, u3, u4] [s0] μ = jR d 81 16 [.ref a, r1, .int i2, s0, .int 0] [] μ :=
  (l_astore_n (show gPG 81 12 = some (.astore_n 3) by decide +kernel) (ls := [.ref a, r1, .int i2, u3, u4]) hs0 (show (3 : Nat) < 5 by decide) (show _ = ([.ref a, r1, .int i2, s0, u4] : List Value) from rfl)).trans <|
  (l_iconst (show gPG 81 13 = some (.iconst 0) by decide +kernel) (c := 0) (by decide +kernel)).trans <|
  l_istore (show gPG 81 14 = some (.istore 4) by decide +kernel) (ls := [.ref a, r1, .int i2, s0, u4]) (show (4 : Nat) < 5 by decide) (show _ = ([.ref a, r1, .int i2, s0, .int 0] : List Value) from rfl)
theorem b81_16 (d : Nat) (μ : jM) (a : Nat) (r1 : Value) (i2 : Int32) (r3 : Value) (i4 : Int32) (h1 : jisref r1 = true) (h3 : jisref r3 = true) : jR (d + 1) 81 16 [.ref a, r1, .int i2, r3, .int i4] [] μ = (jal μ r3).bind fun x1 => (if i4 < x1 then (jgR μ 5 0 (.ref a)).bind fun w6 => (jaI μ w6 i4).bind fun x7 => (if x7 = 114 then (jgR μ 5 2 (.ref a)).bind fun w8 => (jaI μ w8 i4).bind fun x9 => (if jrecv μ 6 r1 = true then (jC d 104 [r1, .int x9, .int i2] μ).bind fun p10 => jR (d + 1) 81 50 [.ref a, r1, .int i2, r3, .int i4] (p10.1.toList ++ [.int i4, r3]) p10.2 else none) else jR (d + 1) 81 51 [.ref a, r1, .int i2, r3, .int i4] [] μ) else (jgR ((jnew μ 5 0 4)) 5 0 (.ref a)).bind fun w2 => (jgR ((jnew μ 5 0 4)) 5 1 (.ref a)).bind fun w3 => (jgR ((jnew μ 5 0 4)) 5 3 (.ref a)).bind fun w4 => (jC d 80 [(.ref (jsz μ)), w2, w3, r3, w4] ((jnew μ 5 0 4))).bind fun p5 => jR (d + 1) 81 77 [.ref a, r1, .int i2, r3, .int i4] (p5.1.toList ++ [(.ref (jsz μ))]) p5.2) :=
  (l_iload (show gPG 81 16 = some (.iload 4) by decide +kernel) rfl).trans <|
  (l_aload_n (show gPG 81 18 = some (.aload_n 3) by decide +kernel) rfl h3).trans <|
  (l_alen (show gPG 81 19 = some (.arraylength) by decide +kernel) ).trans <| bd_cg fun x1 hx1 =>
  (l_cmp (show gPG 81 20 = some (.if_icmp .ge 37) by decide +kernel) (t := 57) (by decide +kernel)).trans <| jm_ge.trans <| ite_cg (
  (l_aload_n (show gPG 81 23 = some (.aload_n 0) by decide +kernel) rfl jr_ref).trans <|
  (l_gR (show gPG 81 24 = some (.getfield 9) by decide +kernel) (kd := 5) (sl := 0) (tc := 1) (fin := 1) (z := 0) (by decide +kernel) (by decide +kernel) (by decide +kernel)).trans <| bd_cg fun w6 hw6 =>
  (l_iload (show gPG 81 27 = some (.iload 4) by decide +kernel) rfl).trans <|
  (l_iald (show gPG 81 29 = some (.iaload) by decide +kernel) ).trans <| bd_cg fun x7 hx7 =>
  (l_bipush (show gPG 81 30 = some (.bipush 114) by decide +kernel) (c := 114) (by decide +kernel)).trans <|
  (l_cmp (show gPG 81 32 = some (.if_icmp .ne 19) by decide +kernel) (t := 51) (by decide +kernel)).trans <| jm_ne.trans <| ite_cg (
  (l_aload_n (show gPG 81 35 = some (.aload_n 3) by decide +kernel) rfl h3).trans <|
  (l_iload (show gPG 81 36 = some (.iload 4) by decide +kernel) rfl).trans <|
  (l_aload_n (show gPG 81 38 = some (.aload_n 1) by decide +kernel) rfl h1).trans <|
  (l_aload_n (show gPG 81 39 = some (.aload_n 0) by decide +kernel) rfl jr_ref).trans <|
  (l_gR (show gPG 81 40 = some (.getfield 18) by decide +kernel) (kd := 5) (sl := 2) (tc := 1) (fin := 1) (z := 0) (by decide +kernel) (by decide +kernel) (by decide +kernel)).trans <| bd_cg fun w8 hw8 =>
  (l_iload (show gPG 81 43 = some (.iload 4) by decide +kernel) rfl).trans <|
  (l_iald (show gPG 81 45 = some (.iaload) by decide +kernel) ).trans <| bd_cg fun x9 hx9 =>
  (l_iload_n (show gPG 81 46 = some (.iload_n 2) by decide +kernel) rfl).trans <|
  l_callV (u := 1) (v := r1) (as := [.int x9, .int i2]) (show gPG 81 47 = some (jinvI 1 34) by decide +kernel) (by decide) (cc := 104) (na := 3) (kd := 6) (q4 := 0) (z := 11) (rest := [.int i4, r3]) (by decide +kernel) (by decide +kernel)  rfl (show (3 : Nat) ≤ 5 by decide) rfl (csi (csv h3 cs0)) (by decide +kernel) (cai (cai (cav h1 ca0)))) (
  rfl)) (
  (l_new (show gPG 81 57 = some (.new 10) by decide +kernel) (kd := 5) (wd := 4) (q3 := 0) (q4 := 0) (by decide +kernel)).trans <|
  (l_dup (show gPG 81 60 = some (.dup) by decide +kernel) (jr_cat1 jr_ref)).trans <|
  (l_aload_n (show gPG 81 61 = some (.aload_n 0) by decide +kernel) rfl jr_ref).trans <|
  (l_gR (show gPG 81 62 = some (.getfield 9) by decide +kernel) (kd := 5) (sl := 0) (tc := 1) (fin := 1) (z := 0) (by decide +kernel) (by decide +kernel) (by decide +kernel)).trans <| bd_cg fun w2 hw2 =>
  (l_aload_n (show gPG 81 65 = some (.aload_n 0) by decide +kernel) rfl jr_ref).trans <|
  (l_gR (show gPG 81 66 = some (.getfield 15) by decide +kernel) (kd := 5) (sl := 1) (tc := 1) (fin := 1) (z := 0) (by decide +kernel) (by decide +kernel) (by decide +kernel)).trans <| bd_cg fun w3 hw3 =>
  (l_aload_n (show gPG 81 69 = some (.aload_n 3) by decide +kernel) rfl h3).trans <|
  (l_aload_n (show gPG 81 70 = some (.aload_n 0) by decide +kernel) rfl jr_ref).trans <|
  (l_gR (show gPG 81 71 = some (.getfield 21) by decide +kernel) (kd := 5) (sl := 3) (tc := 1) (fin := 1) (z := 0) (by decide +kernel) (by decide +kernel) (by decide +kernel)).trans <| bd_cg fun w4 hw4 =>
  l_callS (u := 3) (as := [(.ref (jsz μ)), w2, w3, r3, w4]) (show gPG 81 74 = some (jinvI 3 40) by decide +kernel) (by decide) (cc := 80) (na := 5) (q4 := 0) (z := 14) (rest := [(.ref (jsz μ))]) (by decide +kernel) (by decide +kernel)  rfl (show (5 : Nat) ≤ 6 by decide) rfl (csv jr_ref cs0) (by decide +kernel) (cav (jr_gR hw4) (cav h3 (cav (jr_gR hw3) (cav (jr_gR hw2) (cav jr_ref ca0))))) (fun _ => ⟨_, _, rfl⟩))
theorem b81_50 (d : Nat) (μ : jM) (a : Nat) (r1 : Value) (i2 : Int32) (r3 : Value) (i4 : Int32) (s0 : Value) (s1 : Int32) (s2 : Int32) (h1 : jisref r1 = true) (h3 : jisref r3 = true) (hs0 : jisref s0 = true) : jR d 81 50 [.ref a, r1, .int i2, r3, .int i4] [.int s2, .int s1, s0] μ = (jsI μ s0 s1 s2).bind fun m1 => jR d 81 51 [.ref a, r1, .int i2, r3, .int i4] [] m1 :=
  (l_iast (show gPG 81 50 = some (.iastore) by decide +kernel) ).trans <| bd_cg fun m1 hm1 =>
  rfl
theorem b81_51 (d : Nat) (μ : jM) (a : Nat) (r1 : Value) (i2 : Int32) (r3 : Value) (i4 : Int32) (h1 : jisref r1 = true) (h3 : jisref r3 = true) : jR d 81 51 [.ref a, r1, .int i2, r3, .int i4] [] μ = jR d 81 16 [.ref a, r1, .int i2, r3, .int (i4 + 1)] [] μ :=
  (l_iinc (show gPG 81 51 = some (.iinc 4 1) by decide +kernel) (c := 1) (by decide +kernel) rfl (show _ = ([.ref a, r1, .int i2, r3, .int (i4 + 1)] : List Value) from rfl)).trans <|
  l_goto (show gPG 81 54 = some (.goto (-38)) by decide +kernel) (t := 16) (by decide +kernel)
theorem b81_77 (d : Nat) (μ : jM) (u0 : Value) (u1 : Value) (u2 : Value) (u3 : Value) (u4 : Value) (s0 : Nat) : jR d 81 77 [u0, u1, u2, u3, u4] [(.ref s0)] μ = some (some ((.ref s0)), μ) :=
  l_aret (show gPG 81 77 = some (.areturn) by decide +kernel) (by decide +kernel) jr_ref
-- Formula.printTo
theorem b82_0 (d : Nat) (μ : jM) (a : Nat) (r1 : Value) (r2 : Value) (h1 : jisref r1 = true) (h2 : jisref r2 = true) : jR (d + 1) 82 0 [.ref a, r1, r2, .retAddr 0] [] μ = (if jrecv μ 1 r1 = true then (jC d 292 [r1, .int 61] μ).bind fun p1 => jR (d + 1) 82 6 [.ref a, r1, r2, .retAddr 0] (p1.1.toList ++ []) p1.2 else none) :=
  (l_aload_n (show gPG 82 0 = some (.aload_n 1) by decide +kernel) rfl h1).trans <|
  (l_bipush (show gPG 82 1 = some (.bipush 61) by decide +kernel) (c := 61) (by decide +kernel)).trans <|
  l_callV (u := 1) (v := r1) (as := [.int 61]) (show gPG 82 3 = some (jinvI 1 43) by decide +kernel) (by decide) (cc := 292) (na := 2) (kd := 1) (q4 := 0) (z := 10) (rest := []) (by decide +kernel) (by decide +kernel)  rfl (show (2 : Nat) ≤ 2 by decide) rfl cs0 (by decide +kernel) (cai (cav h1 ca0))
theorem b82_6 (d : Nat) (μ : jM) (a : Nat) (r1 : Value) (r2 : Value) (u3 : Value) (s0 : Value) (h1 : jisref r1 = true) (h2 : jisref r2 = true) (hs0 : jisref s0 = true) : jR d 82 6 [.ref a, r1, r2, u3] [s0] μ = jR d 82 9 [.ref a, r1, r2, .int 0] [] μ :=
  (l_pop (show gPG 82 6 = some (.pop) by decide +kernel) (jr_cat1 hs0)).trans <|
  (l_iconst (show gPG 82 7 = some (.iconst 0) by decide +kernel) (c := 0) (by decide +kernel)).trans <|
  l_istore_n (show gPG 82 8 = some (.istore_n 3) by decide +kernel) (ls := [.ref a, r1, r2, u3]) (show (3 : Nat) < 4 by decide) (show _ = ([.ref a, r1, r2, .int 0] : List Value) from rfl)
theorem sw82_24 (x : Int32) : ((jsw (.lookupswitch 69 #[(48, 36), (114, 50), (115, 50)]) x).bind fun o => jtgt 24 o) = if x = 48 then some 60 else if x = 114 then some 74 else if x = 115 then some 74 else some 93 := by
  by_cases h0 : x = 48
  · subst h0; decide +kernel
  by_cases h1 : x = 114
  · subst h1; decide +kernel
  by_cases h2 : x = 115
  · subst h2; decide +kernel
  have g0 : x.toInt ≠ 48 := fun e => h0 (Int32.toInt_inj.mp (e.trans (by decide +kernel)))
  have g1 : x.toInt ≠ 114 := fun e => h1 (Int32.toInt_inj.mp (e.trans (by decide +kernel)))
  have g2 : x.toInt ≠ 115 := fun e => h2 (Int32.toInt_inj.mp (e.trans (by decide +kernel)))
  have e : jsw (.lookupswitch 69 #[(48, 36), (114, 50), (115, 50)]) x = some 69 := by
    simp only [jsw]
    rw [if_pos (by decide +kernel)]
    simp [Op.lookupswitch.offset, Ne.symm g0, g0, Ne.symm g1, g1, Ne.symm g2, g2]
  rw [e]
  simp only [Option.bind_some, h0, if_false, h1, if_false, h2, if_false]
  decide +kernel
theorem b82_9 (d : Nat) (μ : jM) (a : Nat) (r1 : Value) (r2 : Value) (i3 : Int32) (h1 : jisref r1 = true) (h2 : jisref r2 = true) : jR (d + 1) 82 9 [.ref a, r1, r2, .int i3] [] μ = (jgR μ 5 0 (.ref a)).bind fun w1 => (jal μ w1).bind fun x2 => (if i3 < x2 then (jgR μ 5 0 (.ref a)).bind fun w3 => (jaI μ w3 i3).bind fun x4 => (if x4 = 48 then (jgR μ 5 1 (.ref a)).bind fun w5 => (jaI μ w5 i3).bind fun x6 => (if jrecv μ 1 r1 = true then (jC d 293 [r1, .int x6] μ).bind fun p7 => jR (d + 1) 82 70 [.ref a, r1, r2, .int i3] (p7.1.toList ++ []) p7.2 else none) else (if x4 = 114 then (jgR μ 5 2 (.ref a)).bind fun w8 => (jaI μ w8 i3).bind fun x9 => (if jrecv μ 6 r2 = true then (jC d 92 [r2, .int x9] μ).bind fun p10 => jR (d + 1) 82 87 [.ref a, r1, r2, .int i3] (p10.1.toList ++ [.int i3, r1, .ref a]) p10.2 else none) else (if x4 = 115 then (jgR μ 5 2 (.ref a)).bind fun w11 => (jaI μ w11 i3).bind fun x12 => (if jrecv μ 6 r2 = true then (jC d 92 [r2, .int x12] μ).bind fun p13 => jR (d + 1) 82 87 [.ref a, r1, r2, .int i3] (p13.1.toList ++ [.int i3, r1, .ref a]) p13.2 else none) else (jgR μ 5 0 (.ref a)).bind fun w14 => (jaI μ w14 i3).bind fun x15 => (jC d 84 [r1, .int x15] μ).bind fun p16 => jR (d + 1) 82 103 [.ref a, r1, r2, .int i3] (p16.1.toList ++ []) p16.2))) else some (none, μ)) :=
  (l_iload_n (show gPG 82 9 = some (.iload_n 3) by decide +kernel) rfl).trans <|
  (l_aload_n (show gPG 82 10 = some (.aload_n 0) by decide +kernel) rfl jr_ref).trans <|
  (l_gR (show gPG 82 11 = some (.getfield 9) by decide +kernel) (kd := 5) (sl := 0) (tc := 1) (fin := 1) (z := 0) (by decide +kernel) (by decide +kernel) (by decide +kernel)).trans <| bd_cg fun w1 hw1 =>
  (l_alen (show gPG 82 14 = some (.arraylength) by decide +kernel) ).trans <| bd_cg fun x2 hx2 =>
  (l_cmp (show gPG 82 15 = some (.if_icmp .ge 94) by decide +kernel) (t := 109) (by decide +kernel)).trans <| jm_ge.trans <| ite_cg (
  (l_aload_n (show gPG 82 18 = some (.aload_n 0) by decide +kernel) rfl jr_ref).trans <|
  (l_gR (show gPG 82 19 = some (.getfield 9) by decide +kernel) (kd := 5) (sl := 0) (tc := 1) (fin := 1) (z := 0) (by decide +kernel) (by decide +kernel) (by decide +kernel)).trans <| bd_cg fun w3 hw3 =>
  (l_iload_n (show gPG 82 22 = some (.iload_n 3) by decide +kernel) rfl).trans <|
  (l_iald (show gPG 82 23 = some (.iaload) by decide +kernel) ).trans <| bd_cg fun x4 hx4 =>
  (l_lsw (show gPG 82 24 = some (.lookupswitch 69 #[(48, 36), (114, 50), (115, 50)]) by decide +kernel) sw82_24).trans <| ite_bd (
  (l_aload_n (show gPG 82 60 = some (.aload_n 1) by decide +kernel) rfl h1).trans <|
  (l_aload_n (show gPG 82 61 = some (.aload_n 0) by decide +kernel) rfl jr_ref).trans <|
  (l_gR (show gPG 82 62 = some (.getfield 15) by decide +kernel) (kd := 5) (sl := 1) (tc := 1) (fin := 1) (z := 0) (by decide +kernel) (by decide +kernel) (by decide +kernel)).trans <| bd_cg fun w5 hw5 =>
  (l_iload_n (show gPG 82 65 = some (.iload_n 3) by decide +kernel) rfl).trans <|
  (l_iald (show gPG 82 66 = some (.iaload) by decide +kernel) ).trans <| bd_cg fun x6 hx6 =>
  l_callV (u := 1) (v := r1) (as := [.int x6]) (show gPG 82 67 = some (jinvI 1 49) by decide +kernel) (by decide) (cc := 293) (na := 2) (kd := 1) (q4 := 0) (z := 10) (rest := []) (by decide +kernel) (by decide +kernel)  rfl (show (2 : Nat) ≤ 2 by decide) rfl cs0 (by decide +kernel) (cai (cav h1 ca0))) (
  ite_bd (
  (l_aload_n (show gPG 82 74 = some (.aload_n 0) by decide +kernel) rfl jr_ref).trans <|
  (l_aload_n (show gPG 82 75 = some (.aload_n 1) by decide +kernel) rfl h1).trans <|
  (l_iload_n (show gPG 82 76 = some (.iload_n 3) by decide +kernel) rfl).trans <|
  (l_aload_n (show gPG 82 77 = some (.aload_n 2) by decide +kernel) rfl h2).trans <|
  (l_aload_n (show gPG 82 78 = some (.aload_n 0) by decide +kernel) rfl jr_ref).trans <|
  (l_gR (show gPG 82 79 = some (.getfield 18) by decide +kernel) (kd := 5) (sl := 2) (tc := 1) (fin := 1) (z := 0) (by decide +kernel) (by decide +kernel) (by decide +kernel)).trans <| bd_cg fun w8 hw8 =>
  (l_iload_n (show gPG 82 82 = some (.iload_n 3) by decide +kernel) rfl).trans <|
  (l_iald (show gPG 82 83 = some (.iaload) by decide +kernel) ).trans <| bd_cg fun x9 hx9 =>
  l_callV (u := 1) (v := r2) (as := [.int x9]) (show gPG 82 84 = some (jinvI 1 52) by decide +kernel) (by decide) (cc := 92) (na := 2) (kd := 6) (q4 := 0) (z := 11) (rest := [.int i3, r1, .ref a]) (by decide +kernel) (by decide +kernel)  rfl (show (2 : Nat) ≤ 5 by decide) rfl (csi (csv h1 (csv jr_ref cs0))) (by decide +kernel) (cai (cav h2 ca0))) (
  ite_bd (
  (l_aload_n (show gPG 82 74 = some (.aload_n 0) by decide +kernel) rfl jr_ref).trans <|
  (l_aload_n (show gPG 82 75 = some (.aload_n 1) by decide +kernel) rfl h1).trans <|
  (l_iload_n (show gPG 82 76 = some (.iload_n 3) by decide +kernel) rfl).trans <|
  (l_aload_n (show gPG 82 77 = some (.aload_n 2) by decide +kernel) rfl h2).trans <|
  (l_aload_n (show gPG 82 78 = some (.aload_n 0) by decide +kernel) rfl jr_ref).trans <|
  (l_gR (show gPG 82 79 = some (.getfield 18) by decide +kernel) (kd := 5) (sl := 2) (tc := 1) (fin := 1) (z := 0) (by decide +kernel) (by decide +kernel) (by decide +kernel)).trans <| bd_cg fun w11 hw11 =>
  (l_iload_n (show gPG 82 82 = some (.iload_n 3) by decide +kernel) rfl).trans <|
  (l_iald (show gPG 82 83 = some (.iaload) by decide +kernel) ).trans <| bd_cg fun x12 hx12 =>
  l_callV (u := 1) (v := r2) (as := [.int x12]) (show gPG 82 84 = some (jinvI 1 52) by decide +kernel) (by decide) (cc := 92) (na := 2) (kd := 6) (q4 := 0) (z := 11) (rest := [.int i3, r1, .ref a]) (by decide +kernel) (by decide +kernel)  rfl (show (2 : Nat) ≤ 5 by decide) rfl (csi (csv h1 (csv jr_ref cs0))) (by decide +kernel) (cai (cav h2 ca0))) (
  sm_bd (
  (l_aload_n (show gPG 82 93 = some (.aload_n 1) by decide +kernel) rfl h1).trans <|
  (l_aload_n (show gPG 82 94 = some (.aload_n 0) by decide +kernel) rfl jr_ref).trans <|
  (l_gR (show gPG 82 95 = some (.getfield 9) by decide +kernel) (kd := 5) (sl := 0) (tc := 1) (fin := 1) (z := 0) (by decide +kernel) (by decide +kernel) (by decide +kernel)).trans <| bd_cg fun w14 hw14 =>
  (l_iload_n (show gPG 82 98 = some (.iload_n 3) by decide +kernel) rfl).trans <|
  (l_iald (show gPG 82 99 = some (.iaload) by decide +kernel) ).trans <| bd_cg fun x15 hx15 =>
  l_callS (u := 2) (as := [r1, .int x15]) (show gPG 82 100 = some (jinvI 2 60) by decide +kernel) (by decide) (cc := 84) (na := 2) (q4 := 0) (z := 12) (rest := []) (by decide +kernel) (by decide +kernel)  rfl (show (2 : Nat) ≤ 2 by decide) rfl cs0 (by decide +kernel) (cai (cav h1 ca0)) (fun e => absurd e (by decide))))))) (
  l_ret (show gPG 82 109 = some (.return_) by decide +kernel) (by decide +kernel))
theorem b82_70 (d : Nat) (μ : jM) (a : Nat) (r1 : Value) (r2 : Value) (i3 : Int32) (s0 : Value) (h1 : jisref r1 = true) (h2 : jisref r2 = true) (hs0 : jisref s0 = true) : jR d 82 70 [.ref a, r1, r2, .int i3] [s0] μ = jR d 82 103 [.ref a, r1, r2, .int i3] [] μ :=
  (l_pop (show gPG 82 70 = some (.pop) by decide +kernel) (jr_cat1 hs0)).trans <|
  l_goto (show gPG 82 71 = some (.goto 32) by decide +kernel) (t := 103) (by decide +kernel)
theorem b82_87 (d : Nat) (μ : jM) (a : Nat) (r1 : Value) (r2 : Value) (i3 : Int32) (s0 : Value) (s1 : Value) (s2 : Int32) (s3 : Int32) (h1 : jisref r1 = true) (h2 : jisref r2 = true) (hs0 : jisref s0 = true) (hs1 : jisref s1 = true) : jR (d + 1) 82 87 [.ref a, r1, r2, .int i3] [.int s3, .int s2, s1, s0] μ = (if jrecv μ 5 s0 = true then (jC d 83 [s0, s1, .int s2, .int s3] μ).bind fun p1 => jR (d + 1) 82 90 [.ref a, r1, r2, .int i3] (p1.1.toList ++ []) p1.2 else none) :=
  l_callV (u := 1) (v := s0) (as := [s1, .int s2, .int s3]) (show gPG 82 87 = some (jinvI 1 56) by decide +kernel) (by decide) (cc := 83) (na := 4) (kd := 5) (q4 := 0) (z := 10) (rest := []) (by decide +kernel) (by decide +kernel)  rfl (show (4 : Nat) ≤ 4 by decide) rfl cs0 (by decide +kernel) (cai (cai (cav hs1 (cav hs0 ca0))))
theorem b82_90 (d : Nat) (μ : jM) (a : Nat) (r1 : Value) (r2 : Value) (i3 : Int32) (h1 : jisref r1 = true) (h2 : jisref r2 = true) : jR d 82 90 [.ref a, r1, r2, .int i3] [] μ = jR d 82 103 [.ref a, r1, r2, .int i3] [] μ :=
  l_goto (show gPG 82 90 = some (.goto 13) by decide +kernel) (t := 103) (by decide +kernel)
theorem b82_103 (d : Nat) (μ : jM) (a : Nat) (r1 : Value) (r2 : Value) (i3 : Int32) (h1 : jisref r1 = true) (h2 : jisref r2 = true) : jR d 82 103 [.ref a, r1, r2, .int i3] [] μ = jR d 82 9 [.ref a, r1, r2, .int (i3 + 1)] [] μ :=
  (l_iinc (show gPG 82 103 = some (.iinc 3 1) by decide +kernel) (c := 1) (by decide +kernel) rfl (show _ = ([.ref a, r1, r2, .int (i3 + 1)] : List Value) from rfl)).trans <|
  l_goto (show gPG 82 106 = some (.goto (-97)) by decide +kernel) (t := 9) (by decide +kernel)
-- Formula.printRef
theorem b83_0 (d : Nat) (μ : jM) (a : Nat) (r1 : Value) (i2 : Int32) (i3 : Int32) (h1 : jisref r1 = true) : jR (d + 1) 83 0 [.ref a, r1, .int i2, .int i3] [] μ = (if i3 = (-1) then (if jrecv μ 1 r1 = true then (jC d 292 [r1, .int 35] μ).bind fun p4 => jR (d + 1) 83 11 [.ref a, r1, .int i2, .int i3] (p4.1.toList ++ []) p4.2 else none) else (jgR μ 5 0 (.ref a)).bind fun w1 => (jaI μ w1 i2).bind fun x2 => (if x2 = 115 then (if jrecv μ 1 r1 = true then (jC d 292 [r1, .int 36] μ).bind fun p3 => jR (d + 1) 83 30 [.ref a, r1, .int i2, .int i3] (p3.1.toList ++ []) p3.2 else none) else jR (d + 1) 83 31 [.ref a, r1, .int i2, .int i3] [] μ)) :=
  (l_iload_n (show gPG 83 0 = some (.iload_n 3) by decide +kernel) rfl).trans <|
  (l_iconst (show gPG 83 1 = some (.iconst (-1)) by decide +kernel) (c := (-1)) (by decide +kernel)).trans <|
  (l_cmp (show gPG 83 2 = some (.if_icmp .ne 11) by decide +kernel) (t := 13) (by decide +kernel)).trans <| jm_ne.trans <| ite_cg (
  (l_aload_n (show gPG 83 5 = some (.aload_n 1) by decide +kernel) rfl h1).trans <|
  (l_bipush (show gPG 83 6 = some (.bipush 35) by decide +kernel) (c := 35) (by decide +kernel)).trans <|
  l_callV (u := 1) (v := r1) (as := [.int 35]) (show gPG 83 8 = some (jinvI 1 43) by decide +kernel) (by decide) (cc := 292) (na := 2) (kd := 1) (q4 := 0) (z := 10) (rest := []) (by decide +kernel) (by decide +kernel)  rfl (show (2 : Nat) ≤ 2 by decide) rfl cs0 (by decide +kernel) (cai (cav h1 ca0))) (
  (l_aload_n (show gPG 83 13 = some (.aload_n 0) by decide +kernel) rfl jr_ref).trans <|
  (l_gR (show gPG 83 14 = some (.getfield 9) by decide +kernel) (kd := 5) (sl := 0) (tc := 1) (fin := 1) (z := 0) (by decide +kernel) (by decide +kernel) (by decide +kernel)).trans <| bd_cg fun w1 hw1 =>
  (l_iload_n (show gPG 83 17 = some (.iload_n 2) by decide +kernel) rfl).trans <|
  (l_iald (show gPG 83 18 = some (.iaload) by decide +kernel) ).trans <| bd_cg fun x2 hx2 =>
  (l_bipush (show gPG 83 19 = some (.bipush 115) by decide +kernel) (c := 115) (by decide +kernel)).trans <|
  (l_cmp (show gPG 83 21 = some (.if_icmp .ne 10) by decide +kernel) (t := 31) (by decide +kernel)).trans <| jm_ne.trans <| ite_cg (
  (l_aload_n (show gPG 83 24 = some (.aload_n 1) by decide +kernel) rfl h1).trans <|
  (l_bipush (show gPG 83 25 = some (.bipush 36) by decide +kernel) (c := 36) (by decide +kernel)).trans <|
  l_callV (u := 1) (v := r1) (as := [.int 36]) (show gPG 83 27 = some (jinvI 1 43) by decide +kernel) (by decide) (cc := 292) (na := 2) (kd := 1) (q4 := 0) (z := 10) (rest := []) (by decide +kernel) (by decide +kernel)  rfl (show (2 : Nat) ≤ 2 by decide) rfl cs0 (by decide +kernel) (cai (cav h1 ca0))) (
  rfl))
theorem b83_11 (d : Nat) (μ : jM) (u0 : Value) (u1 : Value) (u2 : Value) (u3 : Value) (s0 : Value) (hs0 : jisref s0 = true) : jR d 83 11 [u0, u1, u2, u3] [s0] μ = some (none, μ) :=
  (l_pop (show gPG 83 11 = some (.pop) by decide +kernel) (jr_cat1 hs0)).trans <|
  l_ret (show gPG 83 12 = some (.return_) by decide +kernel) (by decide +kernel)
theorem b83_30 (d : Nat) (μ : jM) (a : Nat) (r1 : Value) (i2 : Int32) (i3 : Int32) (s0 : Value) (h1 : jisref r1 = true) (hs0 : jisref s0 = true) : jR d 83 30 [.ref a, r1, .int i2, .int i3] [s0] μ = jR d 83 31 [.ref a, r1, .int i2, .int i3] [] μ :=
  l_pop (show gPG 83 30 = some (.pop) by decide +kernel) (jr_cat1 hs0)
theorem b83_31 (d : Nat) (μ : jM) (a : Nat) (r1 : Value) (i2 : Int32) (i3 : Int32) (h1 : jisref r1 = true) : jR (d + 1) 83 31 [.ref a, r1, .int i2, .int i3] [] μ = (jgR μ 5 1 (.ref a)).bind fun w1 => (jaI μ w1 i2).bind fun x2 => (if jrecv μ 1 r1 = true then (jC d 292 [r1, .int ((Int32.toUInt32 (97 + x2) % 65536).toInt32)] μ).bind fun p3 => jR (d + 1) 83 45 [.ref a, r1, .int i2, .int i3] (p3.1.toList ++ []) p3.2 else none) :=
  (l_aload_n (show gPG 83 31 = some (.aload_n 1) by decide +kernel) rfl h1).trans <|
  (l_bipush (show gPG 83 32 = some (.bipush 97) by decide +kernel) (c := 97) (by decide +kernel)).trans <|
  (l_aload_n (show gPG 83 34 = some (.aload_n 0) by decide +kernel) rfl jr_ref).trans <|
  (l_gR (show gPG 83 35 = some (.getfield 15) by decide +kernel) (kd := 5) (sl := 1) (tc := 1) (fin := 1) (z := 0) (by decide +kernel) (by decide +kernel) (by decide +kernel)).trans <| bd_cg fun w1 hw1 =>
  (l_iload_n (show gPG 83 38 = some (.iload_n 2) by decide +kernel) rfl).trans <|
  (l_iald (show gPG 83 39 = some (.iaload) by decide +kernel) ).trans <| bd_cg fun x2 hx2 =>
  (l_iadd (show gPG 83 40 = some (.iadd) by decide +kernel) ).trans <|
  (l_i2c (show gPG 83 41 = some (.i2c) by decide +kernel) ).trans <|
  l_callV (u := 1) (v := r1) (as := [.int ((Int32.toUInt32 (97 + x2) % 65536).toInt32)]) (show gPG 83 42 = some (jinvI 1 43) by decide +kernel) (by decide) (cc := 292) (na := 2) (kd := 1) (q4 := 0) (z := 10) (rest := []) (by decide +kernel) (by decide +kernel)  rfl (show (2 : Nat) ≤ 2 by decide) rfl cs0 (by decide +kernel) (cai (cav h1 ca0))
theorem b83_45 (d : Nat) (μ : jM) (u0 : Value) (u1 : Value) (u2 : Value) (i3 : Int32) (s0 : Value) (hs0 : jisref s0 = true) : jR (d + 1) 83 45 [u0, u1, u2, .int i3] [s0] μ = (if jrecv μ 1 s0 = true then (jC d 293 [s0, .int (i3 + 1)] μ).bind fun p1 => jR (d + 1) 83 51 [u0, u1, u2, .int i3] (p1.1.toList ++ []) p1.2 else none) :=
  (l_iload_n (show gPG 83 45 = some (.iload_n 3) by decide +kernel) rfl).trans <|
  (l_iconst (show gPG 83 46 = some (.iconst 1) by decide +kernel) (c := 1) (by decide +kernel)).trans <|
  (l_iadd (show gPG 83 47 = some (.iadd) by decide +kernel) ).trans <|
  l_callV (u := 1) (v := s0) (as := [.int (i3 + 1)]) (show gPG 83 48 = some (jinvI 1 49) by decide +kernel) (by decide) (cc := 293) (na := 2) (kd := 1) (q4 := 0) (z := 10) (rest := []) (by decide +kernel) (by decide +kernel)  rfl (show (2 : Nat) ≤ 2 by decide) rfl cs0 (by decide +kernel) (cai (cav hs0 ca0))
theorem b83_51 (d : Nat) (μ : jM) (u0 : Value) (u1 : Value) (u2 : Value) (u3 : Value) (s0 : Value) (hs0 : jisref s0 = true) : jR d 83 51 [u0, u1, u2, u3] [s0] μ = some (none, μ) :=
  (l_pop (show gPG 83 51 = some (.pop) by decide +kernel) (jr_cat1 hs0)).trans <|
  l_ret (show gPG 83 52 = some (.return_) by decide +kernel) (by decide +kernel)
-- Formula.printSign
theorem sw84_1 (x : Int32) : ((jsw (.tableswitch 121 103 116 #[111, 121, 121, 121, 121, 91, 81, 101, 121, 121, 121, 121, 121, 71]) x).bind fun o => jtgt 1 o) = if x = 103 then some 112 else if x = 104 then some 122 else if x = 105 then some 122 else if x = 106 then some 122 else if x = 107 then some 122 else if x = 108 then some 92 else if x = 109 then some 82 else if x = 110 then some 102 else if x = 111 then some 122 else if x = 112 then some 122 else if x = 113 then some 122 else if x = 114 then some 122 else if x = 115 then some 122 else if x = 116 then some 72 else some 122 := by
  by_cases h0 : x = 103
  · subst h0; decide +kernel
  by_cases h1 : x = 104
  · subst h1; decide +kernel
  by_cases h2 : x = 105
  · subst h2; decide +kernel
  by_cases h3 : x = 106
  · subst h3; decide +kernel
  by_cases h4 : x = 107
  · subst h4; decide +kernel
  by_cases h5 : x = 108
  · subst h5; decide +kernel
  by_cases h6 : x = 109
  · subst h6; decide +kernel
  by_cases h7 : x = 110
  · subst h7; decide +kernel
  by_cases h8 : x = 111
  · subst h8; decide +kernel
  by_cases h9 : x = 112
  · subst h9; decide +kernel
  by_cases h10 : x = 113
  · subst h10; decide +kernel
  by_cases h11 : x = 114
  · subst h11; decide +kernel
  by_cases h12 : x = 115
  · subst h12; decide +kernel
  by_cases h13 : x = 116
  · subst h13; decide +kernel
  have g0 : x.toInt ≠ 103 := fun e => h0 (Int32.toInt_inj.mp (e.trans (by decide +kernel)))
  have g1 : x.toInt ≠ 104 := fun e => h1 (Int32.toInt_inj.mp (e.trans (by decide +kernel)))
  have g2 : x.toInt ≠ 105 := fun e => h2 (Int32.toInt_inj.mp (e.trans (by decide +kernel)))
  have g3 : x.toInt ≠ 106 := fun e => h3 (Int32.toInt_inj.mp (e.trans (by decide +kernel)))
  have g4 : x.toInt ≠ 107 := fun e => h4 (Int32.toInt_inj.mp (e.trans (by decide +kernel)))
  have g5 : x.toInt ≠ 108 := fun e => h5 (Int32.toInt_inj.mp (e.trans (by decide +kernel)))
  have g6 : x.toInt ≠ 109 := fun e => h6 (Int32.toInt_inj.mp (e.trans (by decide +kernel)))
  have g7 : x.toInt ≠ 110 := fun e => h7 (Int32.toInt_inj.mp (e.trans (by decide +kernel)))
  have g8 : x.toInt ≠ 111 := fun e => h8 (Int32.toInt_inj.mp (e.trans (by decide +kernel)))
  have g9 : x.toInt ≠ 112 := fun e => h9 (Int32.toInt_inj.mp (e.trans (by decide +kernel)))
  have g10 : x.toInt ≠ 113 := fun e => h10 (Int32.toInt_inj.mp (e.trans (by decide +kernel)))
  have g11 : x.toInt ≠ 114 := fun e => h11 (Int32.toInt_inj.mp (e.trans (by decide +kernel)))
  have g12 : x.toInt ≠ 115 := fun e => h12 (Int32.toInt_inj.mp (e.trans (by decide +kernel)))
  have g13 : x.toInt ≠ 116 := fun e => h13 (Int32.toInt_inj.mp (e.trans (by decide +kernel)))
  have e : jsw (.tableswitch 121 103 116 #[111, 121, 121, 121, 121, 91, 81, 101, 121, 121, 121, 121, 121, 71]) x = some 121 := by
    show (if x.toInt < 103 ∨ 116 < x.toInt then _ else _) = _
    rw [if_pos (by omega)]
  rw [e]
  simp only [Option.bind_some, h0, if_false, h1, if_false, h2, if_false, h3, if_false, h4, if_false, h5, if_false, h6, if_false, h7, if_false, h8, if_false, h9, if_false, h10, if_false, h11, if_false, h12, if_false, h13, if_false]
  decide +kernel
theorem b84_0 (d : Nat) (μ : jM) (r0 : Value) (i1 : Int32) (h0 : jisref r0 = true) (hx : jX μ) : jR (d + 1) 84 0 [r0, .int i1] [] μ = (if i1 = 103 then (if jrecv μ 1 r0 = true then (jC d 292 [r0, .int 45] μ).bind fun p1 => jR (d + 1) 84 118 [r0, .int i1] (p1.1.toList ++ []) p1.2 else none) else (if i1 = 104 then (if jrecv μ 1 r0 = true then (jC d 292 [r0, .int ((Int32.toUInt32 i1 % 65536).toInt32)] μ).bind fun p2 => jR (d + 1) 84 128 [r0, .int i1] (p2.1.toList ++ []) p2.2 else none) else (if i1 = 105 then (if jrecv μ 1 r0 = true then (jC d 292 [r0, .int ((Int32.toUInt32 i1 % 65536).toInt32)] μ).bind fun p3 => jR (d + 1) 84 128 [r0, .int i1] (p3.1.toList ++ []) p3.2 else none) else (if i1 = 106 then (if jrecv μ 1 r0 = true then (jC d 292 [r0, .int ((Int32.toUInt32 i1 % 65536).toInt32)] μ).bind fun p4 => jR (d + 1) 84 128 [r0, .int i1] (p4.1.toList ++ []) p4.2 else none) else (if i1 = 107 then (if jrecv μ 1 r0 = true then (jC d 292 [r0, .int ((Int32.toUInt32 i1 % 65536).toInt32)] μ).bind fun p5 => jR (d + 1) 84 128 [r0, .int i1] (p5.1.toList ++ []) p5.2 else none) else (if i1 = 108 then (if jrecv μ 1 r0 = true then (jC d 294 [r0, (jext μ 14)] μ).bind fun p6 => jR (d + 1) 84 98 [r0, .int i1] (p6.1.toList ++ []) p6.2 else none) else (if i1 = 109 then (if jrecv μ 1 r0 = true then (jC d 294 [r0, (jext μ 13)] μ).bind fun p7 => jR (d + 1) 84 88 [r0, .int i1] (p7.1.toList ++ []) p7.2 else none) else (if i1 = 110 then (if jrecv μ 1 r0 = true then (jC d 294 [r0, (jext μ 15)] μ).bind fun p8 => jR (d + 1) 84 108 [r0, .int i1] (p8.1.toList ++ []) p8.2 else none) else (if i1 = 111 then (if jrecv μ 1 r0 = true then (jC d 292 [r0, .int ((Int32.toUInt32 i1 % 65536).toInt32)] μ).bind fun p9 => jR (d + 1) 84 128 [r0, .int i1] (p9.1.toList ++ []) p9.2 else none) else (if i1 = 112 then (if jrecv μ 1 r0 = true then (jC d 292 [r0, .int ((Int32.toUInt32 i1 % 65536).toInt32)] μ).bind fun p10 => jR (d + 1) 84 128 [r0, .int i1] (p10.1.toList ++ []) p10.2 else none) else (if i1 = 113 then (if jrecv μ 1 r0 = true then (jC d 292 [r0, .int ((Int32.toUInt32 i1 % 65536).toInt32)] μ).bind fun p11 => jR (d + 1) 84 128 [r0, .int i1] (p11.1.toList ++ []) p11.2 else none) else (if i1 = 114 then (if jrecv μ 1 r0 = true then (jC d 292 [r0, .int ((Int32.toUInt32 i1 % 65536).toInt32)] μ).bind fun p12 => jR (d + 1) 84 128 [r0, .int i1] (p12.1.toList ++ []) p12.2 else none) else (if i1 = 115 then (if jrecv μ 1 r0 = true then (jC d 292 [r0, .int ((Int32.toUInt32 i1 % 65536).toInt32)] μ).bind fun p13 => jR (d + 1) 84 128 [r0, .int i1] (p13.1.toList ++ []) p13.2 else none) else (if i1 = 116 then (if jrecv μ 1 r0 = true then (jC d 294 [r0, (jext μ 12)] μ).bind fun p14 => jR (d + 1) 84 78 [r0, .int i1] (p14.1.toList ++ []) p14.2 else none) else (if jrecv μ 1 r0 = true then (jC d 292 [r0, .int ((Int32.toUInt32 i1 % 65536).toInt32)] μ).bind fun p15 => jR (d + 1) 84 128 [r0, .int i1] (p15.1.toList ++ []) p15.2 else none))))))))))))))) :=
  (l_iload_n (show gPG 84 0 = some (.iload_n 1) by decide +kernel) rfl).trans <|
  (l_tsw (show gPG 84 1 = some (.tableswitch 121 103 116 #[111, 121, 121, 121, 121, 91, 81, 101, 121, 121, 121, 121, 121, 71]) by decide +kernel) sw84_1).trans <| ite_bd (
  (l_aload_n (show gPG 84 112 = some (.aload_n 0) by decide +kernel) rfl h0).trans <|
  (l_bipush (show gPG 84 113 = some (.bipush 45) by decide +kernel) (c := 45) (by decide +kernel)).trans <|
  l_callV (u := 1) (v := r0) (as := [.int 45]) (show gPG 84 115 = some (jinvI 1 43) by decide +kernel) (by decide) (cc := 292) (na := 2) (kd := 1) (q4 := 0) (z := 10) (rest := []) (by decide +kernel) (by decide +kernel)  rfl (show (2 : Nat) ≤ 2 by decide) rfl cs0 (by decide +kernel) (cai (cav h0 ca0))) (
  ite_bd (
  (l_aload_n (show gPG 84 122 = some (.aload_n 0) by decide +kernel) rfl h0).trans <|
  (l_iload_n (show gPG 84 123 = some (.iload_n 1) by decide +kernel) rfl).trans <|
  (l_i2c (show gPG 84 124 = some (.i2c) by decide +kernel) ).trans <|
  l_callV (u := 1) (v := r0) (as := [.int ((Int32.toUInt32 i1 % 65536).toInt32)]) (show gPG 84 125 = some (jinvI 1 43) by decide +kernel) (by decide) (cc := 292) (na := 2) (kd := 1) (q4 := 0) (z := 10) (rest := []) (by decide +kernel) (by decide +kernel)  rfl (show (2 : Nat) ≤ 2 by decide) rfl cs0 (by decide +kernel) (cai (cav h0 ca0))) (
  ite_bd (
  (l_aload_n (show gPG 84 122 = some (.aload_n 0) by decide +kernel) rfl h0).trans <|
  (l_iload_n (show gPG 84 123 = some (.iload_n 1) by decide +kernel) rfl).trans <|
  (l_i2c (show gPG 84 124 = some (.i2c) by decide +kernel) ).trans <|
  l_callV (u := 1) (v := r0) (as := [.int ((Int32.toUInt32 i1 % 65536).toInt32)]) (show gPG 84 125 = some (jinvI 1 43) by decide +kernel) (by decide) (cc := 292) (na := 2) (kd := 1) (q4 := 0) (z := 10) (rest := []) (by decide +kernel) (by decide +kernel)  rfl (show (2 : Nat) ≤ 2 by decide) rfl cs0 (by decide +kernel) (cai (cav h0 ca0))) (
  ite_bd (
  (l_aload_n (show gPG 84 122 = some (.aload_n 0) by decide +kernel) rfl h0).trans <|
  (l_iload_n (show gPG 84 123 = some (.iload_n 1) by decide +kernel) rfl).trans <|
  (l_i2c (show gPG 84 124 = some (.i2c) by decide +kernel) ).trans <|
  l_callV (u := 1) (v := r0) (as := [.int ((Int32.toUInt32 i1 % 65536).toInt32)]) (show gPG 84 125 = some (jinvI 1 43) by decide +kernel) (by decide) (cc := 292) (na := 2) (kd := 1) (q4 := 0) (z := 10) (rest := []) (by decide +kernel) (by decide +kernel)  rfl (show (2 : Nat) ≤ 2 by decide) rfl cs0 (by decide +kernel) (cai (cav h0 ca0))) (
  ite_bd (
  (l_aload_n (show gPG 84 122 = some (.aload_n 0) by decide +kernel) rfl h0).trans <|
  (l_iload_n (show gPG 84 123 = some (.iload_n 1) by decide +kernel) rfl).trans <|
  (l_i2c (show gPG 84 124 = some (.i2c) by decide +kernel) ).trans <|
  l_callV (u := 1) (v := r0) (as := [.int ((Int32.toUInt32 i1 % 65536).toInt32)]) (show gPG 84 125 = some (jinvI 1 43) by decide +kernel) (by decide) (cc := 292) (na := 2) (kd := 1) (q4 := 0) (z := 10) (rest := []) (by decide +kernel) (by decide +kernel)  rfl (show (2 : Nat) ≤ 2 by decide) rfl cs0 (by decide +kernel) (cai (cav h0 ca0))) (
  ite_bd (
  (l_aload_n (show gPG 84 92 = some (.aload_n 0) by decide +kernel) rfl h0).trans <|
  (l_ldcs (show gPG 84 93 = some (.ldc 71) by decide +kernel) (j := 14) (by decide +kernel) (by decide +kernel)).trans <|
  l_callV (u := 1) (v := r0) (as := [(jext μ 14)]) (show gPG 84 95 = some (jinvI 1 66) by decide +kernel) (by decide) (cc := 294) (na := 2) (kd := 1) (q4 := 0) (z := 10) (rest := []) (by decide +kernel) (by decide +kernel)  rfl (show (2 : Nat) ≤ 2 by decide) rfl cs0 (by decide +kernel) (cav (hx.2 14 (by decide) (by decide)) (cav h0 ca0))) (
  ite_bd (
  (l_aload_n (show gPG 84 82 = some (.aload_n 0) by decide +kernel) rfl h0).trans <|
  (l_ldcs (show gPG 84 83 = some (.ldc 69) by decide +kernel) (j := 13) (by decide +kernel) (by decide +kernel)).trans <|
  l_callV (u := 1) (v := r0) (as := [(jext μ 13)]) (show gPG 84 85 = some (jinvI 1 66) by decide +kernel) (by decide) (cc := 294) (na := 2) (kd := 1) (q4 := 0) (z := 10) (rest := []) (by decide +kernel) (by decide +kernel)  rfl (show (2 : Nat) ≤ 2 by decide) rfl cs0 (by decide +kernel) (cav (hx.2 13 (by decide) (by decide)) (cav h0 ca0))) (
  ite_bd (
  (l_aload_n (show gPG 84 102 = some (.aload_n 0) by decide +kernel) rfl h0).trans <|
  (l_ldcs (show gPG 84 103 = some (.ldc 73) by decide +kernel) (j := 15) (by decide +kernel) (by decide +kernel)).trans <|
  l_callV (u := 1) (v := r0) (as := [(jext μ 15)]) (show gPG 84 105 = some (jinvI 1 66) by decide +kernel) (by decide) (cc := 294) (na := 2) (kd := 1) (q4 := 0) (z := 10) (rest := []) (by decide +kernel) (by decide +kernel)  rfl (show (2 : Nat) ≤ 2 by decide) rfl cs0 (by decide +kernel) (cav (hx.2 15 (by decide) (by decide)) (cav h0 ca0))) (
  ite_bd (
  (l_aload_n (show gPG 84 122 = some (.aload_n 0) by decide +kernel) rfl h0).trans <|
  (l_iload_n (show gPG 84 123 = some (.iload_n 1) by decide +kernel) rfl).trans <|
  (l_i2c (show gPG 84 124 = some (.i2c) by decide +kernel) ).trans <|
  l_callV (u := 1) (v := r0) (as := [.int ((Int32.toUInt32 i1 % 65536).toInt32)]) (show gPG 84 125 = some (jinvI 1 43) by decide +kernel) (by decide) (cc := 292) (na := 2) (kd := 1) (q4 := 0) (z := 10) (rest := []) (by decide +kernel) (by decide +kernel)  rfl (show (2 : Nat) ≤ 2 by decide) rfl cs0 (by decide +kernel) (cai (cav h0 ca0))) (
  ite_bd (
  (l_aload_n (show gPG 84 122 = some (.aload_n 0) by decide +kernel) rfl h0).trans <|
  (l_iload_n (show gPG 84 123 = some (.iload_n 1) by decide +kernel) rfl).trans <|
  (l_i2c (show gPG 84 124 = some (.i2c) by decide +kernel) ).trans <|
  l_callV (u := 1) (v := r0) (as := [.int ((Int32.toUInt32 i1 % 65536).toInt32)]) (show gPG 84 125 = some (jinvI 1 43) by decide +kernel) (by decide) (cc := 292) (na := 2) (kd := 1) (q4 := 0) (z := 10) (rest := []) (by decide +kernel) (by decide +kernel)  rfl (show (2 : Nat) ≤ 2 by decide) rfl cs0 (by decide +kernel) (cai (cav h0 ca0))) (
  ite_bd (
  (l_aload_n (show gPG 84 122 = some (.aload_n 0) by decide +kernel) rfl h0).trans <|
  (l_iload_n (show gPG 84 123 = some (.iload_n 1) by decide +kernel) rfl).trans <|
  (l_i2c (show gPG 84 124 = some (.i2c) by decide +kernel) ).trans <|
  l_callV (u := 1) (v := r0) (as := [.int ((Int32.toUInt32 i1 % 65536).toInt32)]) (show gPG 84 125 = some (jinvI 1 43) by decide +kernel) (by decide) (cc := 292) (na := 2) (kd := 1) (q4 := 0) (z := 10) (rest := []) (by decide +kernel) (by decide +kernel)  rfl (show (2 : Nat) ≤ 2 by decide) rfl cs0 (by decide +kernel) (cai (cav h0 ca0))) (
  ite_bd (
  (l_aload_n (show gPG 84 122 = some (.aload_n 0) by decide +kernel) rfl h0).trans <|
  (l_iload_n (show gPG 84 123 = some (.iload_n 1) by decide +kernel) rfl).trans <|
  (l_i2c (show gPG 84 124 = some (.i2c) by decide +kernel) ).trans <|
  l_callV (u := 1) (v := r0) (as := [.int ((Int32.toUInt32 i1 % 65536).toInt32)]) (show gPG 84 125 = some (jinvI 1 43) by decide +kernel) (by decide) (cc := 292) (na := 2) (kd := 1) (q4 := 0) (z := 10) (rest := []) (by decide +kernel) (by decide +kernel)  rfl (show (2 : Nat) ≤ 2 by decide) rfl cs0 (by decide +kernel) (cai (cav h0 ca0))) (
  ite_bd (
  (l_aload_n (show gPG 84 122 = some (.aload_n 0) by decide +kernel) rfl h0).trans <|
  (l_iload_n (show gPG 84 123 = some (.iload_n 1) by decide +kernel) rfl).trans <|
  (l_i2c (show gPG 84 124 = some (.i2c) by decide +kernel) ).trans <|
  l_callV (u := 1) (v := r0) (as := [.int ((Int32.toUInt32 i1 % 65536).toInt32)]) (show gPG 84 125 = some (jinvI 1 43) by decide +kernel) (by decide) (cc := 292) (na := 2) (kd := 1) (q4 := 0) (z := 10) (rest := []) (by decide +kernel) (by decide +kernel)  rfl (show (2 : Nat) ≤ 2 by decide) rfl cs0 (by decide +kernel) (cai (cav h0 ca0))) (
  ite_bd (
  (l_aload_n (show gPG 84 72 = some (.aload_n 0) by decide +kernel) rfl h0).trans <|
  (l_ldcs (show gPG 84 73 = some (.ldc 64) by decide +kernel) (j := 12) (by decide +kernel) (by decide +kernel)).trans <|
  l_callV (u := 1) (v := r0) (as := [(jext μ 12)]) (show gPG 84 75 = some (jinvI 1 66) by decide +kernel) (by decide) (cc := 294) (na := 2) (kd := 1) (q4 := 0) (z := 10) (rest := []) (by decide +kernel) (by decide +kernel)  rfl (show (2 : Nat) ≤ 2 by decide) rfl cs0 (by decide +kernel) (cav (hx.2 12 (by decide) (by decide)) (cav h0 ca0))) (
  sm_bd (
  (l_aload_n (show gPG 84 122 = some (.aload_n 0) by decide +kernel) rfl h0).trans <|
  (l_iload_n (show gPG 84 123 = some (.iload_n 1) by decide +kernel) rfl).trans <|
  (l_i2c (show gPG 84 124 = some (.i2c) by decide +kernel) ).trans <|
  l_callV (u := 1) (v := r0) (as := [.int ((Int32.toUInt32 i1 % 65536).toInt32)]) (show gPG 84 125 = some (jinvI 1 43) by decide +kernel) (by decide) (cc := 292) (na := 2) (kd := 1) (q4 := 0) (z := 10) (rest := []) (by decide +kernel) (by decide +kernel)  rfl (show (2 : Nat) ≤ 2 by decide) rfl cs0 (by decide +kernel) (cai (cav h0 ca0)))))))))))))))))
theorem b84_78 (d : Nat) (μ : jM) (u0 : Value) (u1 : Value) (s0 : Value) (hs0 : jisref s0 = true) : jR d 84 78 [u0, u1] [s0] μ = jR d 84 129 [u0, u1] [] μ :=
  (l_pop (show gPG 84 78 = some (.pop) by decide +kernel) (jr_cat1 hs0)).trans <|
  l_goto (show gPG 84 79 = some (.goto 50) by decide +kernel) (t := 129) (by decide +kernel)
theorem b84_88 (d : Nat) (μ : jM) (u0 : Value) (u1 : Value) (s0 : Value) (hs0 : jisref s0 = true) : jR d 84 88 [u0, u1] [s0] μ = jR d 84 129 [u0, u1] [] μ :=
  (l_pop (show gPG 84 88 = some (.pop) by decide +kernel) (jr_cat1 hs0)).trans <|
  l_goto (show gPG 84 89 = some (.goto 40) by decide +kernel) (t := 129) (by decide +kernel)
theorem b84_98 (d : Nat) (μ : jM) (u0 : Value) (u1 : Value) (s0 : Value) (hs0 : jisref s0 = true) : jR d 84 98 [u0, u1] [s0] μ = jR d 84 129 [u0, u1] [] μ :=
  (l_pop (show gPG 84 98 = some (.pop) by decide +kernel) (jr_cat1 hs0)).trans <|
  l_goto (show gPG 84 99 = some (.goto 30) by decide +kernel) (t := 129) (by decide +kernel)
theorem b84_108 (d : Nat) (μ : jM) (u0 : Value) (u1 : Value) (s0 : Value) (hs0 : jisref s0 = true) : jR d 84 108 [u0, u1] [s0] μ = jR d 84 129 [u0, u1] [] μ :=
  (l_pop (show gPG 84 108 = some (.pop) by decide +kernel) (jr_cat1 hs0)).trans <|
  l_goto (show gPG 84 109 = some (.goto 20) by decide +kernel) (t := 129) (by decide +kernel)
theorem b84_118 (d : Nat) (μ : jM) (u0 : Value) (u1 : Value) (s0 : Value) (hs0 : jisref s0 = true) : jR d 84 118 [u0, u1] [s0] μ = jR d 84 129 [u0, u1] [] μ :=
  (l_pop (show gPG 84 118 = some (.pop) by decide +kernel) (jr_cat1 hs0)).trans <|
  l_goto (show gPG 84 119 = some (.goto 10) by decide +kernel) (t := 129) (by decide +kernel)
theorem b84_128 (d : Nat) (μ : jM) (u0 : Value) (u1 : Value) (s0 : Value) (hs0 : jisref s0 = true) : jR d 84 128 [u0, u1] [s0] μ = jR d 84 129 [u0, u1] [] μ :=
  l_pop (show gPG 84 128 = some (.pop) by decide +kernel) (jr_cat1 hs0)
theorem b84_129 (d : Nat) (μ : jM) (u0 : Value) (u1 : Value) : jR d 84 129 [u0, u1] [] μ = some (none, μ) :=
  l_ret (show gPG 84 129 = some (.return_) by decide +kernel) (by decide +kernel)
-- Formula.isAlike
theorem b85_0 (d : Nat) (μ : jM) (a : Nat) (r1 : Value) (h1 : jisref r1 = true) : jR d 85 0 [.ref a, r1, .retAddr 0] [] μ = (jgR μ 5 0 (.ref a)).bind fun w1 => (jal μ w1).bind fun x2 => (jgR μ 5 0 r1).bind fun w3 => (jal μ w3).bind fun x4 => (if x2 = x4 then jR d 85 17 [.ref a, r1, .int 0] [] μ else some (some (.int 0), μ)) :=
  (l_aload_n (show gPG 85 0 = some (.aload_n 0) by decide +kernel) rfl jr_ref).trans <|
  (l_gR (show gPG 85 1 = some (.getfield 9) by decide +kernel) (kd := 5) (sl := 0) (tc := 1) (fin := 1) (z := 0) (by decide +kernel) (by decide +kernel) (by decide +kernel)).trans <| bd_cg fun w1 hw1 =>
  (l_alen (show gPG 85 4 = some (.arraylength) by decide +kernel) ).trans <| bd_cg fun x2 hx2 =>
  (l_aload_n (show gPG 85 5 = some (.aload_n 1) by decide +kernel) rfl h1).trans <|
  (l_gR (show gPG 85 6 = some (.getfield 9) by decide +kernel) (kd := 5) (sl := 0) (tc := 1) (fin := 1) (z := 0) (by decide +kernel) (by decide +kernel) (by decide +kernel)).trans <| bd_cg fun w3 hw3 =>
  (l_alen (show gPG 85 9 = some (.arraylength) by decide +kernel) ).trans <| bd_cg fun x4 hx4 =>
  (l_cmp (show gPG 85 10 = some (.if_icmp .eq 5) by decide +kernel) (t := 15) (by decide +kernel)).trans <| jm_eq.trans <| ite_cg (
  (l_iconst (show gPG 85 15 = some (.iconst 0) by decide +kernel) (c := 0) (by decide +kernel)).trans <|
  l_istore_n (show gPG 85 16 = some (.istore_n 2) by decide +kernel) (ls := [.ref a, r1, .retAddr 0]) (show (2 : Nat) < 3 by decide) (show _ = ([.ref a, r1, .int 0] : List Value) from rfl)) (
  (l_iconst (show gPG 85 13 = some (.iconst 0) by decide +kernel) (c := 0) (by decide +kernel)).trans <|
  l_iretK (show gPG 85 14 = some (.ireturn) by decide +kernel) (by decide +kernel))
theorem b85_17 (d : Nat) (μ : jM) (a : Nat) (r1 : Value) (i2 : Int32) (h1 : jisref r1 = true) : jR (d + 1) 85 17 [.ref a, r1, .int i2] [] μ = (jgR μ 5 0 (.ref a)).bind fun w1 => (jal μ w1).bind fun x2 => (if i2 < x2 then (if jrecv μ 5 (.ref a) = true then (jC d 86 [.ref a, r1, .int i2] μ).bind fun p3 => jR (d + 1) 85 32 [.ref a, r1, .int i2] (p3.1.toList ++ []) p3.2 else none) else some (some (.int 1), μ)) :=
  (l_iload_n (show gPG 85 17 = some (.iload_n 2) by decide +kernel) rfl).trans <|
  (l_aload_n (show gPG 85 18 = some (.aload_n 0) by decide +kernel) rfl jr_ref).trans <|
  (l_gR (show gPG 85 19 = some (.getfield 9) by decide +kernel) (kd := 5) (sl := 0) (tc := 1) (fin := 1) (z := 0) (by decide +kernel) (by decide +kernel) (by decide +kernel)).trans <| bd_cg fun w1 hw1 =>
  (l_alen (show gPG 85 22 = some (.arraylength) by decide +kernel) ).trans <| bd_cg fun x2 hx2 =>
  (l_cmp (show gPG 85 23 = some (.if_icmp .ge 20) by decide +kernel) (t := 43) (by decide +kernel)).trans <| jm_ge.trans <| ite_cg (
  (l_aload_n (show gPG 85 26 = some (.aload_n 0) by decide +kernel) rfl jr_ref).trans <|
  (l_aload_n (show gPG 85 27 = some (.aload_n 1) by decide +kernel) rfl h1).trans <|
  (l_iload_n (show gPG 85 28 = some (.iload_n 2) by decide +kernel) rfl).trans <|
  l_callV (u := 1) (v := .ref a) (as := [r1, .int i2]) (show gPG 85 29 = some (jinvI 1 24) by decide +kernel) (by decide) (cc := 86) (na := 3) (kd := 5) (q4 := 0) (z := 10) (rest := []) (by decide +kernel) (by decide +kernel)  rfl (show (3 : Nat) ≤ 3 by decide) rfl cs0 (by decide +kernel) (cai (cav h1 (cav jr_ref ca0)))) (
  (l_iconst (show gPG 85 43 = some (.iconst 1) by decide +kernel) (c := 1) (by decide +kernel)).trans <|
  l_iretK (show gPG 85 44 = some (.ireturn) by decide +kernel) (by decide +kernel))
theorem b85_32 (d : Nat) (μ : jM) (a : Nat) (r1 : Value) (i2 : Int32) (s0 : Int32) (h1 : jisref r1 = true) : jR d 85 32 [.ref a, r1, .int i2] [.int s0] μ = (if s0 = 0 then some (some (.int 0), μ) else jR d 85 17 [.ref a, r1, .int (i2 + 1)] [] μ) :=
  (l_cmp0 (show gPG 85 32 = some (.ifCond .ne 5) by decide +kernel) (t := 37) (by decide +kernel)).trans <| jm_ne.trans <| ite_cg (
  (l_iconst (show gPG 85 35 = some (.iconst 0) by decide +kernel) (c := 0) (by decide +kernel)).trans <|
  l_iretK (show gPG 85 36 = some (.ireturn) by decide +kernel) (by decide +kernel)) (
  (l_iinc (show gPG 85 37 = some (.iinc 2 1) by decide +kernel) (c := 1) (by decide +kernel) rfl (show _ = ([.ref a, r1, .int (i2 + 1)] : List Value) from rfl)).trans <|
  l_goto (show gPG 85 40 = some (.goto (-23)) by decide +kernel) (t := 17) (by decide +kernel))
-- Formula.isTokenAlike
theorem b86_0 (d : Nat) (μ : jM) (a : Nat) (r1 : Value) (i2 : Int32) (h1 : jisref r1 = true) : jR d 86 0 [.ref a, r1, .int i2, .retAddr 0] [] μ = (jgR μ 5 0 (.ref a)).bind fun w1 => (jaI μ w1 i2).bind fun x2 => (jgR μ 5 0 r1).bind fun w3 => (jaI μ w3 i2).bind fun x4 => (if x2 = x4 then (jgR μ 5 2 (.ref a)).bind fun w5 => (jaI μ w5 i2).bind fun x6 => (jgR μ 5 2 r1).bind fun w7 => (jaI μ w7 i2).bind fun x8 => (if x6 = x8 then (jgR μ 5 0 (.ref a)).bind fun w9 => (jaI μ w9 i2).bind fun x10 => (if x10 = 114 then (jgR μ 5 2 (.ref a)).bind fun w11 => (jaI μ w11 i2).bind fun x12 => (if x12 = 0 then jR d 86 57 [.ref a, r1, .int i2, .retAddr 0] [.int 1] μ else jR d 86 56 [.ref a, r1, .int i2, .retAddr 0] [] μ) else jR d 86 56 [.ref a, r1, .int i2, .retAddr 0] [] μ) else jR d 86 30 [.ref a, r1, .int i2, .retAddr 0] [] μ) else jR d 86 30 [.ref a, r1, .int i2, .retAddr 0] [] μ) :=
  (l_aload_n (show gPG 86 0 = some (.aload_n 0) by decide +kernel) rfl jr_ref).trans <|
  (l_gR (show gPG 86 1 = some (.getfield 9) by decide +kernel) (kd := 5) (sl := 0) (tc := 1) (fin := 1) (z := 0) (by decide +kernel) (by decide +kernel) (by decide +kernel)).trans <| bd_cg fun w1 hw1 =>
  (l_iload_n (show gPG 86 4 = some (.iload_n 2) by decide +kernel) rfl).trans <|
  (l_iald (show gPG 86 5 = some (.iaload) by decide +kernel) ).trans <| bd_cg fun x2 hx2 =>
  (l_aload_n (show gPG 86 6 = some (.aload_n 1) by decide +kernel) rfl h1).trans <|
  (l_gR (show gPG 86 7 = some (.getfield 9) by decide +kernel) (kd := 5) (sl := 0) (tc := 1) (fin := 1) (z := 0) (by decide +kernel) (by decide +kernel) (by decide +kernel)).trans <| bd_cg fun w3 hw3 =>
  (l_iload_n (show gPG 86 10 = some (.iload_n 2) by decide +kernel) rfl).trans <|
  (l_iald (show gPG 86 11 = some (.iaload) by decide +kernel) ).trans <| bd_cg fun x4 hx4 =>
  (l_cmp (show gPG 86 12 = some (.if_icmp .ne 18) by decide +kernel) (t := 30) (by decide +kernel)).trans <| jm_ne.trans <| ite_cg (
  (l_aload_n (show gPG 86 15 = some (.aload_n 0) by decide +kernel) rfl jr_ref).trans <|
  (l_gR (show gPG 86 16 = some (.getfield 18) by decide +kernel) (kd := 5) (sl := 2) (tc := 1) (fin := 1) (z := 0) (by decide +kernel) (by decide +kernel) (by decide +kernel)).trans <| bd_cg fun w5 hw5 =>
  (l_iload_n (show gPG 86 19 = some (.iload_n 2) by decide +kernel) rfl).trans <|
  (l_iald (show gPG 86 20 = some (.iaload) by decide +kernel) ).trans <| bd_cg fun x6 hx6 =>
  (l_aload_n (show gPG 86 21 = some (.aload_n 1) by decide +kernel) rfl h1).trans <|
  (l_gR (show gPG 86 22 = some (.getfield 18) by decide +kernel) (kd := 5) (sl := 2) (tc := 1) (fin := 1) (z := 0) (by decide +kernel) (by decide +kernel) (by decide +kernel)).trans <| bd_cg fun w7 hw7 =>
  (l_iload_n (show gPG 86 25 = some (.iload_n 2) by decide +kernel) rfl).trans <|
  (l_iald (show gPG 86 26 = some (.iaload) by decide +kernel) ).trans <| bd_cg fun x8 hx8 =>
  (l_cmp (show gPG 86 27 = some (.if_icmp .eq 5) by decide +kernel) (t := 32) (by decide +kernel)).trans <| jm_eq.trans <| ite_cg (
  (l_aload_n (show gPG 86 32 = some (.aload_n 0) by decide +kernel) rfl jr_ref).trans <|
  (l_gR (show gPG 86 33 = some (.getfield 9) by decide +kernel) (kd := 5) (sl := 0) (tc := 1) (fin := 1) (z := 0) (by decide +kernel) (by decide +kernel) (by decide +kernel)).trans <| bd_cg fun w9 hw9 =>
  (l_iload_n (show gPG 86 36 = some (.iload_n 2) by decide +kernel) rfl).trans <|
  (l_iald (show gPG 86 37 = some (.iaload) by decide +kernel) ).trans <| bd_cg fun x10 hx10 =>
  (l_bipush (show gPG 86 38 = some (.bipush 114) by decide +kernel) (c := 114) (by decide +kernel)).trans <|
  (l_cmp (show gPG 86 40 = some (.if_icmp .ne 16) by decide +kernel) (t := 56) (by decide +kernel)).trans <| jm_ne.trans <| ite_cg (
  (l_aload_n (show gPG 86 43 = some (.aload_n 0) by decide +kernel) rfl jr_ref).trans <|
  (l_gR (show gPG 86 44 = some (.getfield 18) by decide +kernel) (kd := 5) (sl := 2) (tc := 1) (fin := 1) (z := 0) (by decide +kernel) (by decide +kernel) (by decide +kernel)).trans <| bd_cg fun w11 hw11 =>
  (l_iload_n (show gPG 86 47 = some (.iload_n 2) by decide +kernel) rfl).trans <|
  (l_iald (show gPG 86 48 = some (.iaload) by decide +kernel) ).trans <| bd_cg fun x12 hx12 =>
  (l_cmp0 (show gPG 86 49 = some (.ifCond .ne 7) by decide +kernel) (t := 56) (by decide +kernel)).trans <| jm_ne.trans <| ite_cg (
  (l_iconst (show gPG 86 52 = some (.iconst 1) by decide +kernel) (c := 1) (by decide +kernel)).trans <|
  l_goto (show gPG 86 53 = some (.goto 4) by decide +kernel) (t := 57) (by decide +kernel)) (
  rfl)) (
  rfl)) (
  rfl)) (
  rfl)
theorem b86_30 (d : Nat) (μ : jM) (u0 : Value) (u1 : Value) (u2 : Value) (u3 : Value) : jR d 86 30 [u0, u1, u2, u3] [] μ = some (some (.int 0), μ) :=
  (l_iconst (show gPG 86 30 = some (.iconst 0) by decide +kernel) (c := 0) (by decide +kernel)).trans <|
  l_iretK (show gPG 86 31 = some (.ireturn) by decide +kernel) (by decide +kernel)
theorem b86_56 (d : Nat) (μ : jM) (a : Nat) (r1 : Value) (i2 : Int32) (u3 : Value) (h1 : jisref r1 = true) : jR d 86 56 [.ref a, r1, .int i2, u3] [] μ = jR d 86 57 [.ref a, r1, .int i2, u3] [.int 0] μ :=
  l_iconst (show gPG 86 56 = some (.iconst 0) by decide +kernel) (c := 0) (by decide +kernel)
theorem b86_57 (d : Nat) (μ : jM) (a : Nat) (r1 : Value) (i2 : Int32) (u3 : Value) (s0 : Int32) (h1 : jisref r1 = true) : jR d 86 57 [.ref a, r1, .int i2, u3] [.int s0] μ = (if s0 = 0 then (jgR μ 5 1 (.ref a)).bind fun w1 => (jaI μ w1 i2).bind fun x2 => (jgR μ 5 1 r1).bind fun w3 => (jaI μ w3 i2).bind fun x4 => (if x2 = x4 then jR d 86 77 [.ref a, r1, .int i2, .int s0] [] μ else jR d 86 82 [.ref a, r1, .int i2, .int s0] [.int 0] μ) else jR d 86 77 [.ref a, r1, .int i2, .int s0] [] μ) :=
  (l_istore_n (show gPG 86 57 = some (.istore_n 3) by decide +kernel) (ls := [.ref a, r1, .int i2, u3]) (show (3 : Nat) < 4 by decide) (show _ = ([.ref a, r1, .int i2, .int s0] : List Value) from rfl)).trans <|
  (l_iload_n (show gPG 86 58 = some (.iload_n 3) by decide +kernel) rfl).trans <|
  (l_cmp0 (show gPG 86 59 = some (.ifCond .ne 18) by decide +kernel) (t := 77) (by decide +kernel)).trans <| jm_ne.trans <| ite_cg (
  (l_aload_n (show gPG 86 62 = some (.aload_n 0) by decide +kernel) rfl jr_ref).trans <|
  (l_gR (show gPG 86 63 = some (.getfield 15) by decide +kernel) (kd := 5) (sl := 1) (tc := 1) (fin := 1) (z := 0) (by decide +kernel) (by decide +kernel) (by decide +kernel)).trans <| bd_cg fun w1 hw1 =>
  (l_iload_n (show gPG 86 66 = some (.iload_n 2) by decide +kernel) rfl).trans <|
  (l_iald (show gPG 86 67 = some (.iaload) by decide +kernel) ).trans <| bd_cg fun x2 hx2 =>
  (l_aload_n (show gPG 86 68 = some (.aload_n 1) by decide +kernel) rfl h1).trans <|
  (l_gR (show gPG 86 69 = some (.getfield 15) by decide +kernel) (kd := 5) (sl := 1) (tc := 1) (fin := 1) (z := 0) (by decide +kernel) (by decide +kernel) (by decide +kernel)).trans <| bd_cg fun w3 hw3 =>
  (l_iload_n (show gPG 86 72 = some (.iload_n 2) by decide +kernel) rfl).trans <|
  (l_iald (show gPG 86 73 = some (.iaload) by decide +kernel) ).trans <| bd_cg fun x4 hx4 =>
  (l_cmp (show gPG 86 74 = some (.if_icmp .ne 7) by decide +kernel) (t := 81) (by decide +kernel)).trans <| jm_ne.trans <| ite_cg (
  rfl) (
  l_iconst (show gPG 86 81 = some (.iconst 0) by decide +kernel) (c := 0) (by decide +kernel))) (
  rfl)
theorem b86_77 (d : Nat) (μ : jM) (u0 : Value) (u1 : Value) (u2 : Value) (u3 : Value) : jR d 86 77 [u0, u1, u2, u3] [] μ = jR d 86 82 [u0, u1, u2, u3] [.int 1] μ :=
  (l_iconst (show gPG 86 77 = some (.iconst 1) by decide +kernel) (c := 1) (by decide +kernel)).trans <|
  l_goto (show gPG 86 78 = some (.goto 4) by decide +kernel) (t := 82) (by decide +kernel)
theorem b86_82 (d : Nat) (μ : jM) (u0 : Value) (u1 : Value) (u2 : Value) (u3 : Value) (s0 : Int32) : jR d 86 82 [u0, u1, u2, u3] [.int s0] μ = (if jrf 4 s0 = true then some (some (.int s0), μ) else none) :=
  l_iret (show gPG 86 82 = some (.ireturn) by decide +kernel) (rc := 4) (by decide +kernel)
-- Grid.init
theorem b87_0 (d : Nat) (μ : jM) (a : Nat) : jR (d + 1) 87 0 [.ref a] [] μ = (jpR ((jnew μ 20 8 8)) 6 1 (.ref a) ((.ref (jsz μ)))).bind fun m1 => (jpR ((jnew m1 20 24 24)) 6 2 (.ref a) ((.ref (jsz m1)))).bind fun m2 => (jpR ((jnew m2 20 24 24)) 6 3 (.ref a) ((.ref (jsz m2)))).bind fun m3 => (jpR ((jnew m3 30 24 24)) 6 4 (.ref a) ((.ref (jsz m3)))).bind fun m4 => (jpR ((jnew m4 20 24 24)) 6 5 (.ref a) ((.ref (jsz m4)))).bind fun m5 => some (none, m5) :=
  (l_aload_n (show gPG 87 0 = some (.aload_n 0) by decide +kernel) rfl jr_ref).trans <|
  (l_obj (u := 3) (show gPG 87 1 = some (jinvI 3 3) by decide +kernel) (by decide) (q2 := 99) (q3 := 0) (z := 18) (by decide +kernel) (by decide +kernel) cs0 (by decide +kernel)).trans <|
  (l_aload_n (show gPG 87 4 = some (.aload_n 0) by decide +kernel) rfl jr_ref).trans <|
  (l_bipush (show gPG 87 5 = some (.bipush 8) by decide +kernel) (c := 8) (by decide +kernel)).trans <|
  (l_newaK (show gPG 87 7 = some (.newarray .int) by decide +kernel) (kd := 20) (N := 8) rfl (by decide +kernel)).trans <|
  (l_pR (show gPG 87 9 = some (.putfield 9) by decide +kernel) (kd := 6) (sl := 1) (tc := 1) (fin := 1) (z := 0) (by decide +kernel) (by decide +kernel) (by decide +kernel) jr_ref).trans <| bd_cg fun m1 hm1 =>
  (l_aload_n (show gPG 87 12 = some (.aload_n 0) by decide +kernel) rfl jr_ref).trans <|
  (l_bipush (show gPG 87 13 = some (.bipush 24) by decide +kernel) (c := 24) (by decide +kernel)).trans <|
  (l_newaK (show gPG 87 15 = some (.newarray .int) by decide +kernel) (kd := 20) (N := 24) rfl (by decide +kernel)).trans <|
  (l_pR (show gPG 87 17 = some (.putfield 15) by decide +kernel) (kd := 6) (sl := 2) (tc := 1) (fin := 1) (z := 0) (by decide +kernel) (by decide +kernel) (by decide +kernel) jr_ref).trans <| bd_cg fun m2 hm2 =>
  (l_aload_n (show gPG 87 20 = some (.aload_n 0) by decide +kernel) rfl jr_ref).trans <|
  (l_bipush (show gPG 87 21 = some (.bipush 24) by decide +kernel) (c := 24) (by decide +kernel)).trans <|
  (l_newaK (show gPG 87 23 = some (.newarray .int) by decide +kernel) (kd := 20) (N := 24) rfl (by decide +kernel)).trans <|
  (l_pR (show gPG 87 25 = some (.putfield 18) by decide +kernel) (kd := 6) (sl := 3) (tc := 1) (fin := 1) (z := 0) (by decide +kernel) (by decide +kernel) (by decide +kernel) jr_ref).trans <| bd_cg fun m3 hm3 =>
  (l_aload_n (show gPG 87 28 = some (.aload_n 0) by decide +kernel) rfl jr_ref).trans <|
  (l_bipush (show gPG 87 29 = some (.bipush 24) by decide +kernel) (c := 24) (by decide +kernel)).trans <|
  (l_anewaK (show gPG 87 31 = some (.anewarray 21) by decide +kernel) (q1 := 0) (q2 := 0) (q3 := 0) (kd := 30) (N := 24) (by decide +kernel) (by decide +kernel)).trans <|
  (l_pR (show gPG 87 34 = some (.putfield 23) by decide +kernel) (kd := 6) (sl := 4) (tc := 1) (fin := 1) (z := 0) (by decide +kernel) (by decide +kernel) (by decide +kernel) jr_ref).trans <| bd_cg fun m4 hm4 =>
  (l_aload_n (show gPG 87 37 = some (.aload_n 0) by decide +kernel) rfl jr_ref).trans <|
  (l_bipush (show gPG 87 38 = some (.bipush 24) by decide +kernel) (c := 24) (by decide +kernel)).trans <|
  (l_newaK (show gPG 87 40 = some (.newarray .int) by decide +kernel) (kd := 20) (N := 24) rfl (by decide +kernel)).trans <|
  (l_pR (show gPG 87 42 = some (.putfield 27) by decide +kernel) (kd := 6) (sl := 5) (tc := 1) (fin := 1) (z := 0) (by decide +kernel) (by decide +kernel) (by decide +kernel) jr_ref).trans <| bd_cg fun m5 hm5 =>
  l_ret (show gPG 87 45 = some (.return_) by decide +kernel) (by decide +kernel)
-- Grid.cellAt
theorem b88_0 (d : Nat) (μ : jM) (a : Nat) (i1 : Int32) (i2 : Int32) : jR d 88 0 [.ref a, .int i1, .int i2, .retAddr 0] [] μ = (if i1 < 0 then jR d 88 25 [.ref a, .int i1, .int i2, .retAddr 0] [] μ else (jgI μ 6 0 (.ref a)).bind fun x1 => (if i1 < x1 then (if i2 < 0 then jR d 88 25 [.ref a, .int i1, .int i2, .retAddr 0] [] μ else (if i2 < 3 then jR d 88 26 [.ref a, .int i1, .int i2, .retAddr 0] [.int 1] μ else jR d 88 25 [.ref a, .int i1, .int i2, .retAddr 0] [] μ)) else jR d 88 25 [.ref a, .int i1, .int i2, .retAddr 0] [] μ)) :=
  (l_iload_n (show gPG 88 0 = some (.iload_n 1) by decide +kernel) rfl).trans <|
  (l_cmp0 (show gPG 88 1 = some (.ifCond .lt 24) by decide +kernel) (t := 25) (by decide +kernel)).trans <| jm_lt.trans <| ite_cg (
  rfl) (
  (l_iload_n (show gPG 88 4 = some (.iload_n 1) by decide +kernel) rfl).trans <|
  (l_aload_n (show gPG 88 5 = some (.aload_n 0) by decide +kernel) rfl jr_ref).trans <|
  (l_gI (show gPG 88 6 = some (.getfield 30) by decide +kernel) (kd := 6) (sl := 0) (tc := 0) (fin := 0) (z := 0) (by decide +kernel) (by decide +kernel) (by decide +kernel)).trans <| bd_cg fun x1 hx1 =>
  (l_cmp (show gPG 88 9 = some (.if_icmp .ge 16) by decide +kernel) (t := 25) (by decide +kernel)).trans <| jm_ge.trans <| ite_cg (
  (l_iload_n (show gPG 88 12 = some (.iload_n 2) by decide +kernel) rfl).trans <|
  (l_cmp0 (show gPG 88 13 = some (.ifCond .lt 12) by decide +kernel) (t := 25) (by decide +kernel)).trans <| jm_lt.trans <| ite_cg (
  rfl) (
  (l_iload_n (show gPG 88 16 = some (.iload_n 2) by decide +kernel) rfl).trans <|
  (l_iconst (show gPG 88 17 = some (.iconst 3) by decide +kernel) (c := 3) (by decide +kernel)).trans <|
  (l_cmp (show gPG 88 18 = some (.if_icmp .ge 7) by decide +kernel) (t := 25) (by decide +kernel)).trans <| jm_ge.trans <| ite_cg (
  (l_iconst (show gPG 88 21 = some (.iconst 1) by decide +kernel) (c := 1) (by decide +kernel)).trans <|
  l_goto (show gPG 88 22 = some (.goto 4) by decide +kernel) (t := 26) (by decide +kernel)) (
  rfl))) (
  rfl))
theorem b88_25 (d : Nat) (μ : jM) (u0 : Value) (i1 : Int32) (i2 : Int32) (u3 : Value) : jR d 88 25 [u0, .int i1, .int i2, u3] [] μ = jR d 88 26 [u0, .int i1, .int i2, u3] [.int 0] μ :=
  l_iconst (show gPG 88 25 = some (.iconst 0) by decide +kernel) (c := 0) (by decide +kernel)
theorem b88_26 (d : Nat) (μ : jM) (u0 : Value) (i1 : Int32) (i2 : Int32) (u3 : Value) (s0 : Int32) : jR d 88 26 [u0, .int i1, .int i2, u3] [.int s0] μ = (if s0 = 0 then jR d 88 40 [u0, .int i1, .int i2, .int s0] [.int (-1)] μ else jR d 88 40 [u0, .int i1, .int i2, .int s0] [.int ((i1 * 3) + i2)] μ) :=
  (l_istore_n (show gPG 88 26 = some (.istore_n 3) by decide +kernel) (ls := [u0, .int i1, .int i2, u3]) (show (3 : Nat) < 4 by decide) (show _ = ([u0, .int i1, .int i2, .int s0] : List Value) from rfl)).trans <|
  (l_iload_n (show gPG 88 27 = some (.iload_n 3) by decide +kernel) rfl).trans <|
  (l_cmp0 (show gPG 88 28 = some (.ifCond .eq 11) by decide +kernel) (t := 39) (by decide +kernel)).trans <| jm_eq.trans <| ite_cg (
  l_iconst (show gPG 88 39 = some (.iconst (-1)) by decide +kernel) (c := (-1)) (by decide +kernel)) (
  (l_iload_n (show gPG 88 31 = some (.iload_n 1) by decide +kernel) rfl).trans <|
  (l_iconst (show gPG 88 32 = some (.iconst 3) by decide +kernel) (c := 3) (by decide +kernel)).trans <|
  (l_imul (show gPG 88 33 = some (.imul) by decide +kernel) ).trans <|
  (l_iload_n (show gPG 88 34 = some (.iload_n 2) by decide +kernel) rfl).trans <|
  (l_iadd (show gPG 88 35 = some (.iadd) by decide +kernel) ).trans <|
  l_goto (show gPG 88 36 = some (.goto 4) by decide +kernel) (t := 40) (by decide +kernel))
theorem b88_40 (d : Nat) (μ : jM) (u0 : Value) (u1 : Value) (u2 : Value) (u3 : Value) (s0 : Int32) : jR d 88 40 [u0, u1, u2, u3] [.int s0] μ = some (some (.int s0), μ) :=
  l_iret1 (show gPG 88 40 = some (.ireturn) by decide +kernel) (by decide +kernel)
-- Grid.keyAt
theorem b89_0 (d : Nat) (μ : jM) (a : Nat) (i1 : Int32) : jR d 89 0 [.ref a, .int i1] [] μ = (if i1 < 0 then jR d 89 21 [.ref a, .int i1] [] μ else (jgI μ 6 0 (.ref a)).bind fun x1 => (if i1 < x1 then (jgR μ 6 1 (.ref a)).bind fun w2 => (jaI μ w2 i1).bind fun x3 => jR d 89 22 [.ref a, .int i1] [.int x3] μ else jR d 89 21 [.ref a, .int i1] [] μ)) :=
  (l_iload_n (show gPG 89 0 = some (.iload_n 1) by decide +kernel) rfl).trans <|
  (l_cmp0 (show gPG 89 1 = some (.ifCond .lt 20) by decide +kernel) (t := 21) (by decide +kernel)).trans <| jm_lt.trans <| ite_cg (
  rfl) (
  (l_iload_n (show gPG 89 4 = some (.iload_n 1) by decide +kernel) rfl).trans <|
  (l_aload_n (show gPG 89 5 = some (.aload_n 0) by decide +kernel) rfl jr_ref).trans <|
  (l_gI (show gPG 89 6 = some (.getfield 30) by decide +kernel) (kd := 6) (sl := 0) (tc := 0) (fin := 0) (z := 0) (by decide +kernel) (by decide +kernel) (by decide +kernel)).trans <| bd_cg fun x1 hx1 =>
  (l_cmp (show gPG 89 9 = some (.if_icmp .ge 12) by decide +kernel) (t := 21) (by decide +kernel)).trans <| jm_ge.trans <| ite_cg (
  (l_aload_n (show gPG 89 12 = some (.aload_n 0) by decide +kernel) rfl jr_ref).trans <|
  (l_gR (show gPG 89 13 = some (.getfield 9) by decide +kernel) (kd := 6) (sl := 1) (tc := 1) (fin := 1) (z := 0) (by decide +kernel) (by decide +kernel) (by decide +kernel)).trans <| bd_cg fun w2 hw2 =>
  (l_iload_n (show gPG 89 16 = some (.iload_n 1) by decide +kernel) rfl).trans <|
  (l_iald (show gPG 89 17 = some (.iaload) by decide +kernel) ).trans <| bd_cg fun x3 hx3 =>
  l_goto (show gPG 89 18 = some (.goto 4) by decide +kernel) (t := 22) (by decide +kernel)) (
  rfl))
theorem b89_21 (d : Nat) (μ : jM) (u0 : Value) (u1 : Value) : jR d 89 21 [u0, u1] [] μ = jR d 89 22 [u0, u1] [.int 0] μ :=
  l_iconst (show gPG 89 21 = some (.iconst 0) by decide +kernel) (c := 0) (by decide +kernel)
theorem b89_22 (d : Nat) (μ : jM) (u0 : Value) (u1 : Value) (s0 : Int32) : jR d 89 22 [u0, u1] [.int s0] μ = some (some (.int s0), μ) :=
  l_iret1 (show gPG 89 22 = some (.ireturn) by decide +kernel) (by decide +kernel)
-- Grid.become
theorem b90_0 (d : Nat) (μ : jM) (a : Nat) (r1 : Value) (h1 : jisref r1 = true) : jR (d + 1) 90 0 [.ref a, r1, .retAddr 0] [] μ = (jgI μ 6 0 r1).bind fun x1 => (jpI μ 6 0 0 (.ref a) x1).bind fun m2 => (jgR m2 6 1 r1).bind fun w3 => (jgR m2 6 1 (.ref a)).bind fun w4 => (jcp m2 w3 0 w4 0 8).bind fun m5 => (jgR m5 6 2 r1).bind fun w6 => (jgR m5 6 2 (.ref a)).bind fun w7 => (jcp m5 w6 0 w7 0 24).bind fun m8 => (jgR m8 6 3 r1).bind fun w9 => (jgR m8 6 3 (.ref a)).bind fun w10 => (jcp m8 w9 0 w10 0 24).bind fun m11 => (jgR m11 6 5 r1).bind fun w12 => (jgR m11 6 5 (.ref a)).bind fun w13 => (jcp m11 w12 0 w13 0 24).bind fun m14 => jR (d + 1) 90 70 [.ref a, r1, .int 0] [] m14 :=
  (l_aload_n (show gPG 90 0 = some (.aload_n 0) by decide +kernel) rfl jr_ref).trans <|
  (l_aload_n (show gPG 90 1 = some (.aload_n 1) by decide +kernel) rfl h1).trans <|
  (l_gI (show gPG 90 2 = some (.getfield 30) by decide +kernel) (kd := 6) (sl := 0) (tc := 0) (fin := 0) (z := 0) (by decide +kernel) (by decide +kernel) (by decide +kernel)).trans <| bd_cg fun x1 hx1 =>
  (l_pI (show gPG 90 5 = some (.putfield 30) by decide +kernel) (kd := 6) (sl := 0) (tc := 0) (fin := 0) (z := 0) (by decide +kernel) (by decide +kernel) (by decide +kernel)).trans <| bd_cg fun m2 hm2 =>
  (l_aload_n (show gPG 90 8 = some (.aload_n 1) by decide +kernel) rfl h1).trans <|
  (l_gR (show gPG 90 9 = some (.getfield 9) by decide +kernel) (kd := 6) (sl := 1) (tc := 1) (fin := 1) (z := 0) (by decide +kernel) (by decide +kernel) (by decide +kernel)).trans <| bd_cg fun w3 hw3 =>
  (l_iconst (show gPG 90 12 = some (.iconst 0) by decide +kernel) (c := 0) (by decide +kernel)).trans <|
  (l_aload_n (show gPG 90 13 = some (.aload_n 0) by decide +kernel) rfl jr_ref).trans <|
  (l_gR (show gPG 90 14 = some (.getfield 9) by decide +kernel) (kd := 6) (sl := 1) (tc := 1) (fin := 1) (z := 0) (by decide +kernel) (by decide +kernel) (by decide +kernel)).trans <| bd_cg fun w4 hw4 =>
  (l_iconst (show gPG 90 17 = some (.iconst 0) by decide +kernel) (c := 0) (by decide +kernel)).trans <|
  (l_bipush (show gPG 90 18 = some (.bipush 8) by decide +kernel) (c := 8) (by decide +kernel)).trans <|
  (l_acp (show gPG 90 20 = some (.invokestatic 49) by decide +kernel) (q3 := 99) (q4 := 0) (z := 19) (by decide +kernel) (by decide +kernel) (jr_gR hw3) (jr_gR hw4) cs0 (by decide +kernel)).trans <| bd_cg fun m5 hm5 =>
  (l_aload_n (show gPG 90 23 = some (.aload_n 1) by decide +kernel) rfl h1).trans <|
  (l_gR (show gPG 90 24 = some (.getfield 15) by decide +kernel) (kd := 6) (sl := 2) (tc := 1) (fin := 1) (z := 0) (by decide +kernel) (by decide +kernel) (by decide +kernel)).trans <| bd_cg fun w6 hw6 =>
  (l_iconst (show gPG 90 27 = some (.iconst 0) by decide +kernel) (c := 0) (by decide +kernel)).trans <|
  (l_aload_n (show gPG 90 28 = some (.aload_n 0) by decide +kernel) rfl jr_ref).trans <|
  (l_gR (show gPG 90 29 = some (.getfield 15) by decide +kernel) (kd := 6) (sl := 2) (tc := 1) (fin := 1) (z := 0) (by decide +kernel) (by decide +kernel) (by decide +kernel)).trans <| bd_cg fun w7 hw7 =>
  (l_iconst (show gPG 90 32 = some (.iconst 0) by decide +kernel) (c := 0) (by decide +kernel)).trans <|
  (l_bipush (show gPG 90 33 = some (.bipush 24) by decide +kernel) (c := 24) (by decide +kernel)).trans <|
  (l_acp (show gPG 90 35 = some (.invokestatic 49) by decide +kernel) (q3 := 99) (q4 := 0) (z := 19) (by decide +kernel) (by decide +kernel) (jr_gR hw6) (jr_gR hw7) cs0 (by decide +kernel)).trans <| bd_cg fun m8 hm8 =>
  (l_aload_n (show gPG 90 38 = some (.aload_n 1) by decide +kernel) rfl h1).trans <|
  (l_gR (show gPG 90 39 = some (.getfield 18) by decide +kernel) (kd := 6) (sl := 3) (tc := 1) (fin := 1) (z := 0) (by decide +kernel) (by decide +kernel) (by decide +kernel)).trans <| bd_cg fun w9 hw9 =>
  (l_iconst (show gPG 90 42 = some (.iconst 0) by decide +kernel) (c := 0) (by decide +kernel)).trans <|
  (l_aload_n (show gPG 90 43 = some (.aload_n 0) by decide +kernel) rfl jr_ref).trans <|
  (l_gR (show gPG 90 44 = some (.getfield 18) by decide +kernel) (kd := 6) (sl := 3) (tc := 1) (fin := 1) (z := 0) (by decide +kernel) (by decide +kernel) (by decide +kernel)).trans <| bd_cg fun w10 hw10 =>
  (l_iconst (show gPG 90 47 = some (.iconst 0) by decide +kernel) (c := 0) (by decide +kernel)).trans <|
  (l_bipush (show gPG 90 48 = some (.bipush 24) by decide +kernel) (c := 24) (by decide +kernel)).trans <|
  (l_acp (show gPG 90 50 = some (.invokestatic 49) by decide +kernel) (q3 := 99) (q4 := 0) (z := 19) (by decide +kernel) (by decide +kernel) (jr_gR hw9) (jr_gR hw10) cs0 (by decide +kernel)).trans <| bd_cg fun m11 hm11 =>
  (l_aload_n (show gPG 90 53 = some (.aload_n 1) by decide +kernel) rfl h1).trans <|
  (l_gR (show gPG 90 54 = some (.getfield 27) by decide +kernel) (kd := 6) (sl := 5) (tc := 1) (fin := 1) (z := 0) (by decide +kernel) (by decide +kernel) (by decide +kernel)).trans <| bd_cg fun w12 hw12 =>
  (l_iconst (show gPG 90 57 = some (.iconst 0) by decide +kernel) (c := 0) (by decide +kernel)).trans <|
  (l_aload_n (show gPG 90 58 = some (.aload_n 0) by decide +kernel) rfl jr_ref).trans <|
  (l_gR (show gPG 90 59 = some (.getfield 27) by decide +kernel) (kd := 6) (sl := 5) (tc := 1) (fin := 1) (z := 0) (by decide +kernel) (by decide +kernel) (by decide +kernel)).trans <| bd_cg fun w13 hw13 =>
  (l_iconst (show gPG 90 62 = some (.iconst 0) by decide +kernel) (c := 0) (by decide +kernel)).trans <|
  (l_bipush (show gPG 90 63 = some (.bipush 24) by decide +kernel) (c := 24) (by decide +kernel)).trans <|
  (l_acp (show gPG 90 65 = some (.invokestatic 49) by decide +kernel) (q3 := 99) (q4 := 0) (z := 19) (by decide +kernel) (by decide +kernel) (jr_gR hw12) (jr_gR hw13) cs0 (by decide +kernel)).trans <| bd_cg fun m14 hm14 =>
  (l_iconst (show gPG 90 68 = some (.iconst 0) by decide +kernel) (c := 0) (by decide +kernel)).trans <|
  l_istore_n (show gPG 90 69 = some (.istore_n 2) by decide +kernel) (ls := [.ref a, r1, .retAddr 0]) (show (2 : Nat) < 3 by decide) (show _ = ([.ref a, r1, .int 0] : List Value) from rfl)
theorem b90_70 (d : Nat) (μ : jM) (a : Nat) (r1 : Value) (i2 : Int32) (h1 : jisref r1 = true) : jR d 90 70 [.ref a, r1, .int i2] [] μ = (if i2 < 24 then (jgR μ 6 4 (.ref a)).bind fun w1 => (jgR μ 6 4 r1).bind fun w2 => (jaR μ w2 i2).bind fun w3 => (jsR μ w1 i2 w3).bind fun m4 => jR d 90 70 [.ref a, r1, .int (i2 + 1)] [] m4 else some (none, μ)) :=
  (l_iload_n (show gPG 90 70 = some (.iload_n 2) by decide +kernel) rfl).trans <|
  (l_bipush (show gPG 90 71 = some (.bipush 24) by decide +kernel) (c := 24) (by decide +kernel)).trans <|
  (l_cmp (show gPG 90 73 = some (.if_icmp .ge 21) by decide +kernel) (t := 94) (by decide +kernel)).trans <| jm_ge.trans <| ite_cg (
  (l_aload_n (show gPG 90 76 = some (.aload_n 0) by decide +kernel) rfl jr_ref).trans <|
  (l_gR (show gPG 90 77 = some (.getfield 23) by decide +kernel) (kd := 6) (sl := 4) (tc := 1) (fin := 1) (z := 0) (by decide +kernel) (by decide +kernel) (by decide +kernel)).trans <| bd_cg fun w1 hw1 =>
  (l_iload_n (show gPG 90 80 = some (.iload_n 2) by decide +kernel) rfl).trans <|
  (l_aload_n (show gPG 90 81 = some (.aload_n 1) by decide +kernel) rfl h1).trans <|
  (l_gR (show gPG 90 82 = some (.getfield 23) by decide +kernel) (kd := 6) (sl := 4) (tc := 1) (fin := 1) (z := 0) (by decide +kernel) (by decide +kernel) (by decide +kernel)).trans <| bd_cg fun w2 hw2 =>
  (l_iload_n (show gPG 90 85 = some (.iload_n 2) by decide +kernel) rfl).trans <|
  (l_aald (show gPG 90 86 = some (.aaload) by decide +kernel) ).trans <| bd_cg fun w3 hw3 =>
  (l_aast (show gPG 90 87 = some (.aastore) by decide +kernel) ).trans <| bd_cg fun m4 hm4 =>
  (l_iinc (show gPG 90 88 = some (.iinc 2 1) by decide +kernel) (c := 1) (by decide +kernel) rfl (show _ = ([.ref a, r1, .int (i2 + 1)] : List Value) from rfl)).trans <|
  l_goto (show gPG 90 91 = some (.goto (-21)) by decide +kernel) (t := 70) (by decide +kernel)) (
  l_ret (show gPG 90 94 = some (.return_) by decide +kernel) (by decide +kernel))
-- Grid.setContent
theorem b91_0 (d : Nat) (μ : jM) (a : Nat) (i1 : Int32) (i2 : Int32) (i3 : Int32) (i4 : Int32) (r5 : Value) (h5 : jisref r5 = true) : jR (d + 1) 91 0 [.ref a, .int i1, .int i2, .int i3, .int i4, r5, .retAddr 0] [] μ = (if jrecv μ 6 (.ref a) = true then (jC d 88 [.ref a, .int i1, .int i2] μ).bind fun p1 => jR (d + 1) 91 6 [.ref a, .int i1, .int i2, .int i3, .int i4, r5, .retAddr 0] (p1.1.toList ++ []) p1.2 else none) :=
  (l_aload_n (show gPG 91 0 = some (.aload_n 0) by decide +kernel) rfl jr_ref).trans <|
  (l_iload_n (show gPG 91 1 = some (.iload_n 1) by decide +kernel) rfl).trans <|
  (l_iload_n (show gPG 91 2 = some (.iload_n 2) by decide +kernel) rfl).trans <|
  l_callV (u := 1) (v := .ref a) (as := [.int i1, .int i2]) (show gPG 91 3 = some (jinvI 1 34) by decide +kernel) (by decide) (cc := 88) (na := 3) (kd := 6) (q4 := 0) (z := 10) (rest := []) (by decide +kernel) (by decide +kernel)  rfl (show (3 : Nat) ≤ 3 by decide) rfl cs0 (by decide +kernel) (cai (cai (cav jr_ref ca0)))
theorem b91_6 (d : Nat) (μ : jM) (a : Nat) (u1 : Value) (u2 : Value) (i3 : Int32) (i4 : Int32) (r5 : Value) (u6 : Value) (s0 : Int32) (h5 : jisref r5 = true) : jR d 91 6 [.ref a, u1, u2, .int i3, .int i4, r5, u6] [.int s0] μ = (if s0 = (-1) then jR d 91 40 [.ref a, u1, u2, .int i3, .int i4, r5, .int s0] [] μ else (jgR μ 6 2 (.ref a)).bind fun w1 => (jsI μ w1 s0 i3).bind fun m2 => (jgR m2 6 3 (.ref a)).bind fun w3 => (jsI m2 w3 s0 i4).bind fun m4 => (jgR m4 6 4 (.ref a)).bind fun w5 => (jsR m4 w5 s0 r5).bind fun m6 => jR d 91 40 [.ref a, u1, u2, .int i3, .int i4, r5, .int s0] [] m6) :=
  (l_istore (show gPG 91 6 = some (.istore 6) by decide +kernel) (ls := [.ref a, u1, u2, .int i3, .int i4, r5, u6]) (show (6 : Nat) < 7 by decide) (show _ = ([.ref a, u1, u2, .int i3, .int i4, r5, .int s0] : List Value) from rfl)).trans <|
  (l_iload (show gPG 91 8 = some (.iload 6) by decide +kernel) rfl).trans <|
  (l_iconst (show gPG 91 10 = some (.iconst (-1)) by decide +kernel) (c := (-1)) (by decide +kernel)).trans <|
  (l_cmp (show gPG 91 11 = some (.if_icmp .eq 29) by decide +kernel) (t := 40) (by decide +kernel)).trans <| jm_eq.trans <| ite_cg (
  rfl) (
  (l_aload_n (show gPG 91 14 = some (.aload_n 0) by decide +kernel) rfl jr_ref).trans <|
  (l_gR (show gPG 91 15 = some (.getfield 15) by decide +kernel) (kd := 6) (sl := 2) (tc := 1) (fin := 1) (z := 0) (by decide +kernel) (by decide +kernel) (by decide +kernel)).trans <| bd_cg fun w1 hw1 =>
  (l_iload (show gPG 91 18 = some (.iload 6) by decide +kernel) rfl).trans <|
  (l_iload_n (show gPG 91 20 = some (.iload_n 3) by decide +kernel) rfl).trans <|
  (l_iast (show gPG 91 21 = some (.iastore) by decide +kernel) ).trans <| bd_cg fun m2 hm2 =>
  (l_aload_n (show gPG 91 22 = some (.aload_n 0) by decide +kernel) rfl jr_ref).trans <|
  (l_gR (show gPG 91 23 = some (.getfield 18) by decide +kernel) (kd := 6) (sl := 3) (tc := 1) (fin := 1) (z := 0) (by decide +kernel) (by decide +kernel) (by decide +kernel)).trans <| bd_cg fun w3 hw3 =>
  (l_iload (show gPG 91 26 = some (.iload 6) by decide +kernel) rfl).trans <|
  (l_iload (show gPG 91 28 = some (.iload 4) by decide +kernel) rfl).trans <|
  (l_iast (show gPG 91 30 = some (.iastore) by decide +kernel) ).trans <| bd_cg fun m4 hm4 =>
  (l_aload_n (show gPG 91 31 = some (.aload_n 0) by decide +kernel) rfl jr_ref).trans <|
  (l_gR (show gPG 91 32 = some (.getfield 23) by decide +kernel) (kd := 6) (sl := 4) (tc := 1) (fin := 1) (z := 0) (by decide +kernel) (by decide +kernel) (by decide +kernel)).trans <| bd_cg fun w5 hw5 =>
  (l_iload (show gPG 91 35 = some (.iload 6) by decide +kernel) rfl).trans <|
  (l_aload (show gPG 91 37 = some (.aload 5) by decide +kernel) rfl h5).trans <|
  (l_aast (show gPG 91 39 = some (.aastore) by decide +kernel) ).trans <| bd_cg fun m6 hm6 =>
  rfl)
theorem b91_40 (d : Nat) (μ : jM) (u0 : Value) (u1 : Value) (u2 : Value) (u3 : Value) (u4 : Value) (u5 : Value) (u6 : Value) : jR d 91 40 [u0, u1, u2, u3, u4, u5, u6] [] μ = some (none, μ) :=
  l_ret (show gPG 91 40 = some (.return_) by decide +kernel) (by decide +kernel)
-- Grid.placeOf
theorem b92_0 (d : Nat) (μ : jM) (a : Nat) (i1 : Int32) : jR d 92 0 [.ref a, .int i1, .retAddr 0] [] μ = jR d 92 2 [.ref a, .int i1, .int 0] [] μ :=
  (l_iconst (show gPG 92 0 = some (.iconst 0) by decide +kernel) (c := 0) (by decide +kernel)).trans <|
  l_istore_n (show gPG 92 1 = some (.istore_n 2) by decide +kernel) (ls := [.ref a, .int i1, .retAddr 0]) (show (2 : Nat) < 3 by decide) (show _ = ([.ref a, .int i1, .int 0] : List Value) from rfl)
theorem b92_2 (d : Nat) (μ : jM) (a : Nat) (i1 : Int32) (i2 : Int32) : jR d 92 2 [.ref a, .int i1, .int i2] [] μ = (jgI μ 6 0 (.ref a)).bind fun x1 => (if i2 < x1 then (jgR μ 6 1 (.ref a)).bind fun w2 => (jaI μ w2 i2).bind fun x3 => (if x3 = i1 then some (some (.int i2), μ) else jR d 92 2 [.ref a, .int i1, .int (i2 + 1)] [] μ) else some (some (.int (-1)), μ)) :=
  (l_iload_n (show gPG 92 2 = some (.iload_n 2) by decide +kernel) rfl).trans <|
  (l_aload_n (show gPG 92 3 = some (.aload_n 0) by decide +kernel) rfl jr_ref).trans <|
  (l_gI (show gPG 92 4 = some (.getfield 30) by decide +kernel) (kd := 6) (sl := 0) (tc := 0) (fin := 0) (z := 0) (by decide +kernel) (by decide +kernel) (by decide +kernel)).trans <| bd_cg fun x1 hx1 =>
  (l_cmp (show gPG 92 7 = some (.if_icmp .ge 21) by decide +kernel) (t := 28) (by decide +kernel)).trans <| jm_ge.trans <| ite_cg (
  (l_aload_n (show gPG 92 10 = some (.aload_n 0) by decide +kernel) rfl jr_ref).trans <|
  (l_gR (show gPG 92 11 = some (.getfield 9) by decide +kernel) (kd := 6) (sl := 1) (tc := 1) (fin := 1) (z := 0) (by decide +kernel) (by decide +kernel) (by decide +kernel)).trans <| bd_cg fun w2 hw2 =>
  (l_iload_n (show gPG 92 14 = some (.iload_n 2) by decide +kernel) rfl).trans <|
  (l_iald (show gPG 92 15 = some (.iaload) by decide +kernel) ).trans <| bd_cg fun x3 hx3 =>
  (l_iload_n (show gPG 92 16 = some (.iload_n 1) by decide +kernel) rfl).trans <|
  (l_cmp (show gPG 92 17 = some (.if_icmp .ne 5) by decide +kernel) (t := 22) (by decide +kernel)).trans <| jm_ne.trans <| ite_cg (
  (l_iload_n (show gPG 92 20 = some (.iload_n 2) by decide +kernel) rfl).trans <|
  l_iret1 (show gPG 92 21 = some (.ireturn) by decide +kernel) (by decide +kernel)) (
  (l_iinc (show gPG 92 22 = some (.iinc 2 1) by decide +kernel) (c := 1) (by decide +kernel) rfl (show _ = ([.ref a, .int i1, .int (i2 + 1)] : List Value) from rfl)).trans <|
  l_goto (show gPG 92 25 = some (.goto (-23)) by decide +kernel) (t := 2) (by decide +kernel))) (
  (l_iconst (show gPG 92 28 = some (.iconst (-1)) by decide +kernel) (c := (-1)) (by decide +kernel)).trans <|
  l_iret1 (show gPG 92 29 = some (.ireturn) by decide +kernel) (by decide +kernel))
-- Grid.insertRow
theorem b93_0 (d : Nat) (μ : jM) (a : Nat) (i1 : Int32) (i2 : Int32) : jR d 93 0 [.ref a, .int i1, .int i2, .retAddr 0, .retAddr 0] [] μ = (jgI μ 6 0 (.ref a)).bind fun x1 => (if x1 < 8 then (jgI μ 6 0 (.ref a)).bind fun x2 => (jgI μ 6 0 (.ref a)).bind fun x3 => (jpI μ 6 0 0 (.ref a) (x3 + 1)).bind fun m4 => (jgR m4 6 1 (.ref a)).bind fun w5 => (jsI m4 w5 x2 i2).bind fun m6 => jR d 93 35 [.ref a, .int i1, .int i2, .int x2, .int 0] [] m6 else some (none, μ)) :=
  (l_aload_n (show gPG 93 0 = some (.aload_n 0) by decide +kernel) rfl jr_ref).trans <|
  (l_gI (show gPG 93 1 = some (.getfield 30) by decide +kernel) (kd := 6) (sl := 0) (tc := 0) (fin := 0) (z := 0) (by decide +kernel) (by decide +kernel) (by decide +kernel)).trans <| bd_cg fun x1 hx1 =>
  (l_bipush (show gPG 93 4 = some (.bipush 8) by decide +kernel) (c := 8) (by decide +kernel)).trans <|
  (l_cmp (show gPG 93 6 = some (.if_icmp .lt 4) by decide +kernel) (t := 10) (by decide +kernel)).trans <| jm_lt.trans <| ite_cg (
  (l_aload_n (show gPG 93 10 = some (.aload_n 0) by decide +kernel) rfl jr_ref).trans <|
  (l_gI (show gPG 93 11 = some (.getfield 30) by decide +kernel) (kd := 6) (sl := 0) (tc := 0) (fin := 0) (z := 0) (by decide +kernel) (by decide +kernel) (by decide +kernel)).trans <| bd_cg fun x2 hx2 =>
  (l_istore_n (show gPG 93 14 = some (.istore_n 3) by decide +kernel) (ls := [.ref a, .int i1, .int i2, .retAddr 0, .retAddr 0]) (show (3 : Nat) < 5 by decide) (show _ = ([.ref a, .int i1, .int i2, .int x2, .retAddr 0] : List Value) from rfl)).trans <|
  (l_aload_n (show gPG 93 15 = some (.aload_n 0) by decide +kernel) rfl jr_ref).trans <|
  (l_dup (show gPG 93 16 = some (.dup) by decide +kernel) (jr_cat1 jr_ref)).trans <|
  (l_gI (show gPG 93 17 = some (.getfield 30) by decide +kernel) (kd := 6) (sl := 0) (tc := 0) (fin := 0) (z := 0) (by decide +kernel) (by decide +kernel) (by decide +kernel)).trans <| bd_cg fun x3 hx3 =>
  (l_iconst (show gPG 93 20 = some (.iconst 1) by decide +kernel) (c := 1) (by decide +kernel)).trans <|
  (l_iadd (show gPG 93 21 = some (.iadd) by decide +kernel) ).trans <|
  (l_pI (show gPG 93 22 = some (.putfield 30) by decide +kernel) (kd := 6) (sl := 0) (tc := 0) (fin := 0) (z := 0) (by decide +kernel) (by decide +kernel) (by decide +kernel)).trans <| bd_cg fun m4 hm4 =>
  (l_aload_n (show gPG 93 25 = some (.aload_n 0) by decide +kernel) rfl jr_ref).trans <|
  (l_gR (show gPG 93 26 = some (.getfield 9) by decide +kernel) (kd := 6) (sl := 1) (tc := 1) (fin := 1) (z := 0) (by decide +kernel) (by decide +kernel) (by decide +kernel)).trans <| bd_cg fun w5 hw5 =>
  (l_iload_n (show gPG 93 29 = some (.iload_n 3) by decide +kernel) rfl).trans <|
  (l_iload_n (show gPG 93 30 = some (.iload_n 2) by decide +kernel) rfl).trans <|
  (l_iast (show gPG 93 31 = some (.iastore) by decide +kernel) ).trans <| bd_cg fun m6 hm6 =>
  (l_iconst (show gPG 93 32 = some (.iconst 0) by decide +kernel) (c := 0) (by decide +kernel)).trans <|
  l_istore (show gPG 93 33 = some (.istore 4) by decide +kernel) (ls := [.ref a, .int i1, .int i2, .int x2, .retAddr 0]) (show (4 : Nat) < 5 by decide) (show _ = ([.ref a, .int i1, .int i2, .int x2, .int 0] : List Value) from rfl)) (
  l_ret (show gPG 93 9 = some (.return_) by decide +kernel) (by decide +kernel))
theorem b93_35 (d : Nat) (μ : jM) (a : Nat) (i1 : Int32) (u2 : Value) (i3 : Int32) (i4 : Int32) : jR (d + 1) 93 35 [.ref a, .int i1, u2, .int i3, .int i4] [] μ = (if i4 < 3 then (if jrecv μ 6 (.ref a) = true then (jC d 91 [.ref a, .int i3, .int i4, .int 0, .int 0, .null] μ).bind fun p2 => jR (d + 1) 93 51 [.ref a, .int i1, u2, .int i3, .int i4] (p2.1.toList ++ []) p2.2 else none) else (if jrecv μ 6 (.ref a) = true then (jC d 95 [.ref a, .int i3, .int i1] μ).bind fun p1 => jR (d + 1) 93 71 [.ref a, .int i1, u2, .int i3, .int i4] (p1.1.toList ++ []) p1.2 else none)) :=
  (l_iload (show gPG 93 35 = some (.iload 4) by decide +kernel) rfl).trans <|
  (l_iconst (show gPG 93 37 = some (.iconst 3) by decide +kernel) (c := 3) (by decide +kernel)).trans <|
  (l_cmp (show gPG 93 38 = some (.if_icmp .ge 27) by decide +kernel) (t := 65) (by decide +kernel)).trans <| jm_ge.trans <| ite_cg (
  (l_aload_n (show gPG 93 41 = some (.aload_n 0) by decide +kernel) rfl jr_ref).trans <|
  (l_iload_n (show gPG 93 42 = some (.iload_n 3) by decide +kernel) rfl).trans <|
  (l_iload (show gPG 93 43 = some (.iload 4) by decide +kernel) rfl).trans <|
  (l_iconst (show gPG 93 45 = some (.iconst 0) by decide +kernel) (c := 0) (by decide +kernel)).trans <|
  (l_iconst (show gPG 93 46 = some (.iconst 0) by decide +kernel) (c := 0) (by decide +kernel)).trans <|
  (l_anull (show gPG 93 47 = some (.aconst_null) by decide +kernel) ).trans <|
  l_callV (u := 1) (v := .ref a) (as := [.int i3, .int i4, .int 0, .int 0, .null]) (show gPG 93 48 = some (jinvI 1 55) by decide +kernel) (by decide) (cc := 91) (na := 6) (kd := 6) (q4 := 0) (z := 10) (rest := []) (by decide +kernel) (by decide +kernel)  rfl (show (6 : Nat) ≤ 6 by decide) rfl cs0 (by decide +kernel) (cav jr_null (cai (cai (cai (cai (cav jr_ref ca0))))))) (
  (l_aload_n (show gPG 93 65 = some (.aload_n 0) by decide +kernel) rfl jr_ref).trans <|
  (l_iload_n (show gPG 93 66 = some (.iload_n 3) by decide +kernel) rfl).trans <|
  (l_iload_n (show gPG 93 67 = some (.iload_n 1) by decide +kernel) rfl).trans <|
  l_callV (u := 1) (v := .ref a) (as := [.int i3, .int i1]) (show gPG 93 68 = some (jinvI 1 59) by decide +kernel) (by decide) (cc := 95) (na := 3) (kd := 6) (q4 := 0) (z := 10) (rest := []) (by decide +kernel) (by decide +kernel)  rfl (show (3 : Nat) ≤ 3 by decide) rfl cs0 (by decide +kernel) (cai (cai (cav jr_ref ca0))))
theorem b93_51 (d : Nat) (μ : jM) (a : Nat) (i1 : Int32) (u2 : Value) (i3 : Int32) (i4 : Int32) : jR (d + 1) 93 51 [.ref a, .int i1, u2, .int i3, .int i4] [] μ = (if jrecv μ 6 (.ref a) = true then (jC d 94 [.ref a, .int i3, .int i4, .int 0] μ).bind fun p1 => jR (d + 1) 93 59 [.ref a, .int i1, u2, .int i3, .int i4] (p1.1.toList ++ []) p1.2 else none) :=
  (l_aload_n (show gPG 93 51 = some (.aload_n 0) by decide +kernel) rfl jr_ref).trans <|
  (l_iload_n (show gPG 93 52 = some (.iload_n 3) by decide +kernel) rfl).trans <|
  (l_iload (show gPG 93 53 = some (.iload 4) by decide +kernel) rfl).trans <|
  (l_iconst (show gPG 93 55 = some (.iconst 0) by decide +kernel) (c := 0) (by decide +kernel)).trans <|
  l_callV (u := 1) (v := .ref a) (as := [.int i3, .int i4, .int 0]) (show gPG 93 56 = some (jinvI 1 45) by decide +kernel) (by decide) (cc := 94) (na := 4) (kd := 6) (q4 := 0) (z := 10) (rest := []) (by decide +kernel) (by decide +kernel)  rfl (show (4 : Nat) ≤ 4 by decide) rfl cs0 (by decide +kernel) (cai (cai (cai (cav jr_ref ca0))))
theorem b93_59 (d : Nat) (μ : jM) (a : Nat) (i1 : Int32) (u2 : Value) (i3 : Int32) (i4 : Int32) : jR d 93 59 [.ref a, .int i1, u2, .int i3, .int i4] [] μ = jR d 93 35 [.ref a, .int i1, u2, .int i3, .int (i4 + 1)] [] μ :=
  (l_iinc (show gPG 93 59 = some (.iinc 4 1) by decide +kernel) (c := 1) (by decide +kernel) rfl (show _ = ([.ref a, .int i1, u2, .int i3, .int (i4 + 1)] : List Value) from rfl)).trans <|
  l_goto (show gPG 93 62 = some (.goto (-27)) by decide +kernel) (t := 35) (by decide +kernel)
theorem b93_71 (d : Nat) (μ : jM) (u0 : Value) (u1 : Value) (u2 : Value) (u3 : Value) (u4 : Value) : jR d 93 71 [u0, u1, u2, u3, u4] [] μ = some (none, μ) :=
  l_ret (show gPG 93 71 = some (.return_) by decide +kernel) (by decide +kernel)
-- Grid.setNote
theorem b94_0 (d : Nat) (μ : jM) (a : Nat) (i1 : Int32) (i2 : Int32) (i3 : Int32) : jR (d + 1) 94 0 [.ref a, .int i1, .int i2, .int i3, .retAddr 0] [] μ = (if jrecv μ 6 (.ref a) = true then (jC d 88 [.ref a, .int i1, .int i2] μ).bind fun p1 => jR (d + 1) 94 6 [.ref a, .int i1, .int i2, .int i3, .retAddr 0] (p1.1.toList ++ []) p1.2 else none) :=
  (l_aload_n (show gPG 94 0 = some (.aload_n 0) by decide +kernel) rfl jr_ref).trans <|
  (l_iload_n (show gPG 94 1 = some (.iload_n 1) by decide +kernel) rfl).trans <|
  (l_iload_n (show gPG 94 2 = some (.iload_n 2) by decide +kernel) rfl).trans <|
  l_callV (u := 1) (v := .ref a) (as := [.int i1, .int i2]) (show gPG 94 3 = some (jinvI 1 34) by decide +kernel) (by decide) (cc := 88) (na := 3) (kd := 6) (q4 := 0) (z := 10) (rest := []) (by decide +kernel) (by decide +kernel)  rfl (show (3 : Nat) ≤ 3 by decide) rfl cs0 (by decide +kernel) (cai (cai (cav jr_ref ca0)))
theorem b94_6 (d : Nat) (μ : jM) (a : Nat) (u1 : Value) (u2 : Value) (i3 : Int32) (u4 : Value) (s0 : Int32) : jR d 94 6 [.ref a, u1, u2, .int i3, u4] [.int s0] μ = (if s0 = (-1) then jR d 94 22 [.ref a, u1, u2, .int i3, .int s0] [] μ else (jgR μ 6 5 (.ref a)).bind fun w1 => (jsI μ w1 s0 i3).bind fun m2 => jR d 94 22 [.ref a, u1, u2, .int i3, .int s0] [] m2) :=
  (l_istore (show gPG 94 6 = some (.istore 4) by decide +kernel) (ls := [.ref a, u1, u2, .int i3, u4]) (show (4 : Nat) < 5 by decide) (show _ = ([.ref a, u1, u2, .int i3, .int s0] : List Value) from rfl)).trans <|
  (l_iload (show gPG 94 8 = some (.iload 4) by decide +kernel) rfl).trans <|
  (l_iconst (show gPG 94 10 = some (.iconst (-1)) by decide +kernel) (c := (-1)) (by decide +kernel)).trans <|
  (l_cmp (show gPG 94 11 = some (.if_icmp .eq 11) by decide +kernel) (t := 22) (by decide +kernel)).trans <| jm_eq.trans <| ite_cg (
  rfl) (
  (l_aload_n (show gPG 94 14 = some (.aload_n 0) by decide +kernel) rfl jr_ref).trans <|
  (l_gR (show gPG 94 15 = some (.getfield 27) by decide +kernel) (kd := 6) (sl := 5) (tc := 1) (fin := 1) (z := 0) (by decide +kernel) (by decide +kernel) (by decide +kernel)).trans <| bd_cg fun w1 hw1 =>
  (l_iload (show gPG 94 18 = some (.iload 4) by decide +kernel) rfl).trans <|
  (l_iload_n (show gPG 94 20 = some (.iload_n 3) by decide +kernel) rfl).trans <|
  (l_iast (show gPG 94 21 = some (.iastore) by decide +kernel) ).trans <| bd_cg fun m2 hm2 =>
  rfl)
theorem b94_22 (d : Nat) (μ : jM) (u0 : Value) (u1 : Value) (u2 : Value) (u3 : Value) (u4 : Value) : jR d 94 22 [u0, u1, u2, u3, u4] [] μ = some (none, μ) :=
  l_ret (show gPG 94 22 = some (.return_) by decide +kernel) (by decide +kernel)
-- Grid.moveRow
theorem b95_0 (d : Nat) (μ : jM) (a : Nat) (i1 : Int32) (i2 : Int32) : jR d 95 0 [.ref a, .int i1, .int i2, .retAddr 0] [] μ = jR d 95 2 [.ref a, .int i1, .int i2, .int i1] [] μ :=
  (l_iload_n (show gPG 95 0 = some (.iload_n 1) by decide +kernel) rfl).trans <|
  l_istore_n (show gPG 95 1 = some (.istore_n 3) by decide +kernel) (ls := [.ref a, .int i1, .int i2, .retAddr 0]) (show (3 : Nat) < 4 by decide) (show _ = ([.ref a, .int i1, .int i2, .int i1] : List Value) from rfl)
theorem b95_2 (d : Nat) (μ : jM) (a : Nat) (i1 : Int32) (i2 : Int32) (i3 : Int32) : jR (d + 1) 95 2 [.ref a, .int i1, .int i2, .int i3] [] μ = (if i3 < i2 then (if jrecv μ 6 (.ref a) = true then (jC d 96 [.ref a, .int i3, .int (i3 + 1)] μ).bind fun p1 => jR (d + 1) 95 15 [.ref a, .int i1, .int i2, .int i3] (p1.1.toList ++ []) p1.2 else none) else jR (d + 1) 95 23 [.ref a, .int i1, .int i2, .int i1] [] μ) :=
  (l_iload_n (show gPG 95 2 = some (.iload_n 3) by decide +kernel) rfl).trans <|
  (l_iload_n (show gPG 95 3 = some (.iload_n 2) by decide +kernel) rfl).trans <|
  (l_cmp (show gPG 95 4 = some (.if_icmp .ge 17) by decide +kernel) (t := 21) (by decide +kernel)).trans <| jm_ge.trans <| ite_cg (
  (l_aload_n (show gPG 95 7 = some (.aload_n 0) by decide +kernel) rfl jr_ref).trans <|
  (l_iload_n (show gPG 95 8 = some (.iload_n 3) by decide +kernel) rfl).trans <|
  (l_iload_n (show gPG 95 9 = some (.iload_n 3) by decide +kernel) rfl).trans <|
  (l_iconst (show gPG 95 10 = some (.iconst 1) by decide +kernel) (c := 1) (by decide +kernel)).trans <|
  (l_iadd (show gPG 95 11 = some (.iadd) by decide +kernel) ).trans <|
  l_callV (u := 1) (v := .ref a) (as := [.int i3, .int (i3 + 1)]) (show gPG 95 12 = some (jinvI 1 63) by decide +kernel) (by decide) (cc := 96) (na := 3) (kd := 6) (q4 := 0) (z := 10) (rest := []) (by decide +kernel) (by decide +kernel)  rfl (show (3 : Nat) ≤ 3 by decide) rfl cs0 (by decide +kernel) (cai (cai (cav jr_ref ca0)))) (
  (l_iload_n (show gPG 95 21 = some (.iload_n 1) by decide +kernel) rfl).trans <|
  l_istore_n (show gPG 95 22 = some (.istore_n 3) by decide +kernel) (ls := [.ref a, .int i1, .int i2, .int i3]) (show (3 : Nat) < 4 by decide) (show _ = ([.ref a, .int i1, .int i2, .int i1] : List Value) from rfl))
theorem b95_15 (d : Nat) (μ : jM) (a : Nat) (i1 : Int32) (i2 : Int32) (i3 : Int32) : jR d 95 15 [.ref a, .int i1, .int i2, .int i3] [] μ = jR d 95 2 [.ref a, .int i1, .int i2, .int (i3 + 1)] [] μ :=
  (l_iinc (show gPG 95 15 = some (.iinc 3 1) by decide +kernel) (c := 1) (by decide +kernel) rfl (show _ = ([.ref a, .int i1, .int i2, .int (i3 + 1)] : List Value) from rfl)).trans <|
  l_goto (show gPG 95 18 = some (.goto (-16)) by decide +kernel) (t := 2) (by decide +kernel)
theorem b95_23 (d : Nat) (μ : jM) (a : Nat) (u1 : Value) (i2 : Int32) (i3 : Int32) : jR (d + 1) 95 23 [.ref a, u1, .int i2, .int i3] [] μ = (if i2 < i3 then (if jrecv μ 6 (.ref a) = true then (jC d 96 [.ref a, .int i3, .int (i3 - 1)] μ).bind fun p1 => jR (d + 1) 95 36 [.ref a, u1, .int i2, .int i3] (p1.1.toList ++ []) p1.2 else none) else some (none, μ)) :=
  (l_iload_n (show gPG 95 23 = some (.iload_n 3) by decide +kernel) rfl).trans <|
  (l_iload_n (show gPG 95 24 = some (.iload_n 2) by decide +kernel) rfl).trans <|
  (l_cmp (show gPG 95 25 = some (.if_icmp .le 17) by decide +kernel) (t := 42) (by decide +kernel)).trans <| jm_le.trans <| ite_cg (
  (l_aload_n (show gPG 95 28 = some (.aload_n 0) by decide +kernel) rfl jr_ref).trans <|
  (l_iload_n (show gPG 95 29 = some (.iload_n 3) by decide +kernel) rfl).trans <|
  (l_iload_n (show gPG 95 30 = some (.iload_n 3) by decide +kernel) rfl).trans <|
  (l_iconst (show gPG 95 31 = some (.iconst 1) by decide +kernel) (c := 1) (by decide +kernel)).trans <|
  (l_isub (show gPG 95 32 = some (.isub) by decide +kernel) ).trans <|
  l_callV (u := 1) (v := .ref a) (as := [.int i3, .int (i3 - 1)]) (show gPG 95 33 = some (jinvI 1 63) by decide +kernel) (by decide) (cc := 96) (na := 3) (kd := 6) (q4 := 0) (z := 10) (rest := []) (by decide +kernel) (by decide +kernel)  rfl (show (3 : Nat) ≤ 3 by decide) rfl cs0 (by decide +kernel) (cai (cai (cav jr_ref ca0)))) (
  l_ret (show gPG 95 42 = some (.return_) by decide +kernel) (by decide +kernel))
theorem b95_36 (d : Nat) (μ : jM) (a : Nat) (u1 : Value) (i2 : Int32) (i3 : Int32) : jR d 95 36 [.ref a, u1, .int i2, .int i3] [] μ = jR d 95 23 [.ref a, u1, .int i2, .int (i3 + (-1))] [] μ :=
  (l_iinc (show gPG 95 36 = some (.iinc 3 (-1)) by decide +kernel) (c := (-1)) (by decide +kernel) rfl (show _ = ([.ref a, u1, .int i2, .int (i3 + (-1))] : List Value) from rfl)).trans <|
  l_goto (show gPG 95 39 = some (.goto (-16)) by decide +kernel) (t := 23) (by decide +kernel)
-- Grid.swapRows
theorem b96_0 (d : Nat) (μ : jM) (a : Nat) (i1 : Int32) (i2 : Int32) : jR (d + 1) 96 0 [.ref a, .int i1, .int i2, .retAddr 0, .retAddr 0, .retAddr 0, .retAddr 0] [] μ = (if i1 < 0 then jR (d + 1) 96 24 [.ref a, .int i1, .int i2, .retAddr 0, .retAddr 0, .retAddr 0, .retAddr 0] [] μ else (if i2 < 0 then jR (d + 1) 96 24 [.ref a, .int i1, .int i2, .retAddr 0, .retAddr 0, .retAddr 0, .retAddr 0] [] μ else (jgI μ 6 0 (.ref a)).bind fun x1 => (if i1 < x1 then (jgI μ 6 0 (.ref a)).bind fun x2 => (if i2 < x2 then (jgR μ 6 1 (.ref a)).bind fun w3 => (jC d 97 [w3, .int i1, .int i2] μ).bind fun p4 => jR (d + 1) 96 34 [.ref a, .int i1, .int i2, .retAddr 0, .retAddr 0, .retAddr 0, .retAddr 0] (p4.1.toList ++ []) p4.2 else jR (d + 1) 96 24 [.ref a, .int i1, .int i2, .retAddr 0, .retAddr 0, .retAddr 0, .retAddr 0] [] μ) else jR (d + 1) 96 24 [.ref a, .int i1, .int i2, .retAddr 0, .retAddr 0, .retAddr 0, .retAddr 0] [] μ))) :=
  (l_iload_n (show gPG 96 0 = some (.iload_n 1) by decide +kernel) rfl).trans <|
  (l_cmp0 (show gPG 96 1 = some (.ifCond .lt 23) by decide +kernel) (t := 24) (by decide +kernel)).trans <| jm_lt.trans <| ite_cg (
  rfl) (
  (l_iload_n (show gPG 96 4 = some (.iload_n 2) by decide +kernel) rfl).trans <|
  (l_cmp0 (show gPG 96 5 = some (.ifCond .lt 19) by decide +kernel) (t := 24) (by decide +kernel)).trans <| jm_lt.trans <| ite_cg (
  rfl) (
  (l_iload_n (show gPG 96 8 = some (.iload_n 1) by decide +kernel) rfl).trans <|
  (l_aload_n (show gPG 96 9 = some (.aload_n 0) by decide +kernel) rfl jr_ref).trans <|
  (l_gI (show gPG 96 10 = some (.getfield 30) by decide +kernel) (kd := 6) (sl := 0) (tc := 0) (fin := 0) (z := 0) (by decide +kernel) (by decide +kernel) (by decide +kernel)).trans <| bd_cg fun x1 hx1 =>
  (l_cmp (show gPG 96 13 = some (.if_icmp .ge 11) by decide +kernel) (t := 24) (by decide +kernel)).trans <| jm_ge.trans <| ite_cg (
  (l_iload_n (show gPG 96 16 = some (.iload_n 2) by decide +kernel) rfl).trans <|
  (l_aload_n (show gPG 96 17 = some (.aload_n 0) by decide +kernel) rfl jr_ref).trans <|
  (l_gI (show gPG 96 18 = some (.getfield 30) by decide +kernel) (kd := 6) (sl := 0) (tc := 0) (fin := 0) (z := 0) (by decide +kernel) (by decide +kernel) (by decide +kernel)).trans <| bd_cg fun x2 hx2 =>
  (l_cmp (show gPG 96 21 = some (.if_icmp .lt 4) by decide +kernel) (t := 25) (by decide +kernel)).trans <| jm_lt.trans <| ite_cg (
  (l_aload_n (show gPG 96 25 = some (.aload_n 0) by decide +kernel) rfl jr_ref).trans <|
  (l_gR (show gPG 96 26 = some (.getfield 9) by decide +kernel) (kd := 6) (sl := 1) (tc := 1) (fin := 1) (z := 0) (by decide +kernel) (by decide +kernel) (by decide +kernel)).trans <| bd_cg fun w3 hw3 =>
  (l_iload_n (show gPG 96 29 = some (.iload_n 1) by decide +kernel) rfl).trans <|
  (l_iload_n (show gPG 96 30 = some (.iload_n 2) by decide +kernel) rfl).trans <|
  l_callS (u := 2) (as := [w3, .int i1, .int i2]) (show gPG 96 31 = some (jinvI 2 66) by decide +kernel) (by decide) (cc := 97) (na := 3) (q4 := 0) (z := 12) (rest := []) (by decide +kernel) (by decide +kernel)  rfl (show (3 : Nat) ≤ 3 by decide) rfl cs0 (by decide +kernel) (cai (cai (cav (jr_gR hw3) ca0))) (fun e => absurd e (by decide))) (
  rfl)) (
  rfl)))
theorem b96_24 (d : Nat) (μ : jM) (u0 : Value) (u1 : Value) (u2 : Value) (u3 : Value) (u4 : Value) (u5 : Value) (u6 : Value) : jR d 96 24 [u0, u1, u2, u3, u4, u5, u6] [] μ = some (none, μ) :=
  l_ret (show gPG 96 24 = some (.return_) by decide +kernel) (by decide +kernel)
theorem b96_34 (d : Nat) (μ : jM) (a : Nat) (i1 : Int32) (i2 : Int32) (u3 : Value) (u4 : Value) (u5 : Value) (u6 : Value) : jR d 96 34 [.ref a, .int i1, .int i2, u3, u4, u5, u6] [] μ = jR d 96 36 [.ref a, .int i1, .int i2, .int 0, u4, u5, u6] [] μ :=
  (l_iconst (show gPG 96 34 = some (.iconst 0) by decide +kernel) (c := 0) (by decide +kernel)).trans <|
  l_istore_n (show gPG 96 35 = some (.istore_n 3) by decide +kernel) (ls := [.ref a, .int i1, .int i2, u3, u4, u5, u6]) (show (3 : Nat) < 7 by decide) (show _ = ([.ref a, .int i1, .int i2, .int 0, u4, u5, u6] : List Value) from rfl)
theorem b96_36 (d : Nat) (μ : jM) (a : Nat) (i1 : Int32) (i2 : Int32) (i3 : Int32) (u4 : Value) (u5 : Value) (u6 : Value) : jR (d + 1) 96 36 [.ref a, .int i1, .int i2, .int i3, u4, u5, u6] [] μ = (if i3 < 3 then (jgR μ 6 2 (.ref a)).bind fun w1 => (jC d 97 [w1, .int ((i1 * 3) + i3), .int ((i2 * 3) + i3)] μ).bind fun p2 => jR (d + 1) 96 66 [.ref a, .int i1, .int i2, .int i3, .int ((i1 * 3) + i3), .int ((i2 * 3) + i3), u6] (p2.1.toList ++ []) p2.2 else some (none, μ)) :=
  (l_iload_n (show gPG 96 36 = some (.iload_n 3) by decide +kernel) rfl).trans <|
  (l_iconst (show gPG 96 37 = some (.iconst 3) by decide +kernel) (c := 3) (by decide +kernel)).trans <|
  (l_cmp (show gPG 96 38 = some (.if_icmp .ge 88) by decide +kernel) (t := 126) (by decide +kernel)).trans <| jm_ge.trans <| ite_cg (
  (l_iload_n (show gPG 96 41 = some (.iload_n 1) by decide +kernel) rfl).trans <|
  (l_iconst (show gPG 96 42 = some (.iconst 3) by decide +kernel) (c := 3) (by decide +kernel)).trans <|
  (l_imul (show gPG 96 43 = some (.imul) by decide +kernel) ).trans <|
  (l_iload_n (show gPG 96 44 = some (.iload_n 3) by decide +kernel) rfl).trans <|
  (l_iadd (show gPG 96 45 = some (.iadd) by decide +kernel) ).trans <|
  (l_istore (show gPG 96 46 = some (.istore 4) by decide +kernel) (ls := [.ref a, .int i1, .int i2, .int i3, u4, u5, u6]) (show (4 : Nat) < 7 by decide) (show _ = ([.ref a, .int i1, .int i2, .int i3, .int ((i1 * 3) + i3), u5, u6] : List Value) from rfl)).trans <|
  (l_iload_n (show gPG 96 48 = some (.iload_n 2) by decide +kernel) rfl).trans <|
  (l_iconst (show gPG 96 49 = some (.iconst 3) by decide +kernel) (c := 3) (by decide +kernel)).trans <|
  (l_imul (show gPG 96 50 = some (.imul) by decide +kernel) ).trans <|
  (l_iload_n (show gPG 96 51 = some (.iload_n 3) by decide +kernel) rfl).trans <|
  (l_iadd (show gPG 96 52 = some (.iadd) by decide +kernel) ).trans <|
  (l_istore (show gPG 96 53 = some (.istore 5) by decide +kernel) (ls := [.ref a, .int i1, .int i2, .int i3, .int ((i1 * 3) + i3), u5, u6]) (show (5 : Nat) < 7 by decide) (show _ = ([.ref a, .int i1, .int i2, .int i3, .int ((i1 * 3) + i3), .int ((i2 * 3) + i3), u6] : List Value) from rfl)).trans <|
  (l_aload_n (show gPG 96 55 = some (.aload_n 0) by decide +kernel) rfl jr_ref).trans <|
  (l_gR (show gPG 96 56 = some (.getfield 15) by decide +kernel) (kd := 6) (sl := 2) (tc := 1) (fin := 1) (z := 0) (by decide +kernel) (by decide +kernel) (by decide +kernel)).trans <| bd_cg fun w1 hw1 =>
  (l_iload (show gPG 96 59 = some (.iload 4) by decide +kernel) rfl).trans <|
  (l_iload (show gPG 96 61 = some (.iload 5) by decide +kernel) rfl).trans <|
  l_callS (u := 2) (as := [w1, .int ((i1 * 3) + i3), .int ((i2 * 3) + i3)]) (show gPG 96 63 = some (jinvI 2 66) by decide +kernel) (by decide) (cc := 97) (na := 3) (q4 := 0) (z := 12) (rest := []) (by decide +kernel) (by decide +kernel)  rfl (show (3 : Nat) ≤ 3 by decide) rfl cs0 (by decide +kernel) (cai (cai (cav (jr_gR hw1) ca0))) (fun e => absurd e (by decide))) (
  l_ret (show gPG 96 126 = some (.return_) by decide +kernel) (by decide +kernel))
theorem b96_66 (d : Nat) (μ : jM) (a : Nat) (i1 : Int32) (i2 : Int32) (i3 : Int32) (i4 : Int32) (i5 : Int32) (u6 : Value) : jR (d + 1) 96 66 [.ref a, .int i1, .int i2, .int i3, .int i4, .int i5, u6] [] μ = (jgR μ 6 3 (.ref a)).bind fun w1 => (jC d 97 [w1, .int i4, .int i5] μ).bind fun p2 => jR (d + 1) 96 77 [.ref a, .int i1, .int i2, .int i3, .int i4, .int i5, u6] (p2.1.toList ++ []) p2.2 :=
  (l_aload_n (show gPG 96 66 = some (.aload_n 0) by decide +kernel) rfl jr_ref).trans <|
  (l_gR (show gPG 96 67 = some (.getfield 18) by decide +kernel) (kd := 6) (sl := 3) (tc := 1) (fin := 1) (z := 0) (by decide +kernel) (by decide +kernel) (by decide +kernel)).trans <| bd_cg fun w1 hw1 =>
  (l_iload (show gPG 96 70 = some (.iload 4) by decide +kernel) rfl).trans <|
  (l_iload (show gPG 96 72 = some (.iload 5) by decide +kernel) rfl).trans <|
  l_callS (u := 2) (as := [w1, .int i4, .int i5]) (show gPG 96 74 = some (jinvI 2 66) by decide +kernel) (by decide) (cc := 97) (na := 3) (q4 := 0) (z := 12) (rest := []) (by decide +kernel) (by decide +kernel)  rfl (show (3 : Nat) ≤ 3 by decide) rfl cs0 (by decide +kernel) (cai (cai (cav (jr_gR hw1) ca0))) (fun e => absurd e (by decide))
theorem b96_77 (d : Nat) (μ : jM) (a : Nat) (i1 : Int32) (i2 : Int32) (i3 : Int32) (i4 : Int32) (i5 : Int32) (u6 : Value) : jR (d + 1) 96 77 [.ref a, .int i1, .int i2, .int i3, .int i4, .int i5, u6] [] μ = (jgR μ 6 5 (.ref a)).bind fun w1 => (jC d 97 [w1, .int i4, .int i5] μ).bind fun p2 => jR (d + 1) 96 88 [.ref a, .int i1, .int i2, .int i3, .int i4, .int i5, u6] (p2.1.toList ++ []) p2.2 :=
  (l_aload_n (show gPG 96 77 = some (.aload_n 0) by decide +kernel) rfl jr_ref).trans <|
  (l_gR (show gPG 96 78 = some (.getfield 27) by decide +kernel) (kd := 6) (sl := 5) (tc := 1) (fin := 1) (z := 0) (by decide +kernel) (by decide +kernel) (by decide +kernel)).trans <| bd_cg fun w1 hw1 =>
  (l_iload (show gPG 96 81 = some (.iload 4) by decide +kernel) rfl).trans <|
  (l_iload (show gPG 96 83 = some (.iload 5) by decide +kernel) rfl).trans <|
  l_callS (u := 2) (as := [w1, .int i4, .int i5]) (show gPG 96 85 = some (jinvI 2 66) by decide +kernel) (by decide) (cc := 97) (na := 3) (q4 := 0) (z := 12) (rest := []) (by decide +kernel) (by decide +kernel)  rfl (show (3 : Nat) ≤ 3 by decide) rfl cs0 (by decide +kernel) (cai (cai (cav (jr_gR hw1) ca0))) (fun e => absurd e (by decide))
theorem b96_88 (d : Nat) (μ : jM) (a : Nat) (i1 : Int32) (i2 : Int32) (i3 : Int32) (i4 : Int32) (i5 : Int32) (u6 : Value) : jR d 96 88 [.ref a, .int i1, .int i2, .int i3, .int i4, .int i5, u6] [] μ = (jgR μ 6 4 (.ref a)).bind fun w1 => (jaR μ w1 i4).bind fun w2 => (jgR μ 6 4 (.ref a)).bind fun w3 => (jgR μ 6 4 (.ref a)).bind fun w4 => (jaR μ w4 i5).bind fun w5 => (jsR μ w3 i4 w5).bind fun m6 => (jgR m6 6 4 (.ref a)).bind fun w7 => (jsR m6 w7 i5 w2).bind fun m8 => jR d 96 36 [.ref a, .int i1, .int i2, .int (i3 + 1), .int i4, .int i5, w2] [] m8 :=
  (l_aload_n (show gPG 96 88 = some (.aload_n 0) by decide +kernel) rfl jr_ref).trans <|
  (l_gR (show gPG 96 89 = some (.getfield 23) by decide +kernel) (kd := 6) (sl := 4) (tc := 1) (fin := 1) (z := 0) (by decide +kernel) (by decide +kernel) (by decide +kernel)).trans <| bd_cg fun w1 hw1 =>
  (l_iload (show gPG 96 92 = some (.iload 4) by decide +kernel) rfl).trans <|
  (l_aald (show gPG 96 94 = some (.aaload) by decide +kernel) ).trans <| bd_cg fun w2 hw2 =>
  (l_astore (show gPG 96 95 = some (.astore 6) by decide +kernel) (ls := [.ref a, .int i1, .int i2, .int i3, .int i4, .int i5, u6]) (jr_aR hw2) (show (6 : Nat) < 7 by decide) (show _ = ([.ref a, .int i1, .int i2, .int i3, .int i4, .int i5, w2] : List Value) from rfl)).trans <|
  (l_aload_n (show gPG 96 97 = some (.aload_n 0) by decide +kernel) rfl jr_ref).trans <|
  (l_gR (show gPG 96 98 = some (.getfield 23) by decide +kernel) (kd := 6) (sl := 4) (tc := 1) (fin := 1) (z := 0) (by decide +kernel) (by decide +kernel) (by decide +kernel)).trans <| bd_cg fun w3 hw3 =>
  (l_iload (show gPG 96 101 = some (.iload 4) by decide +kernel) rfl).trans <|
  (l_aload_n (show gPG 96 103 = some (.aload_n 0) by decide +kernel) rfl jr_ref).trans <|
  (l_gR (show gPG 96 104 = some (.getfield 23) by decide +kernel) (kd := 6) (sl := 4) (tc := 1) (fin := 1) (z := 0) (by decide +kernel) (by decide +kernel) (by decide +kernel)).trans <| bd_cg fun w4 hw4 =>
  (l_iload (show gPG 96 107 = some (.iload 5) by decide +kernel) rfl).trans <|
  (l_aald (show gPG 96 109 = some (.aaload) by decide +kernel) ).trans <| bd_cg fun w5 hw5 =>
  (l_aast (show gPG 96 110 = some (.aastore) by decide +kernel) ).trans <| bd_cg fun m6 hm6 =>
  (l_aload_n (show gPG 96 111 = some (.aload_n 0) by decide +kernel) rfl jr_ref).trans <|
  (l_gR (show gPG 96 112 = some (.getfield 23) by decide +kernel) (kd := 6) (sl := 4) (tc := 1) (fin := 1) (z := 0) (by decide +kernel) (by decide +kernel) (by decide +kernel)).trans <| bd_cg fun w7 hw7 =>
  (l_iload (show gPG 96 115 = some (.iload 5) by decide +kernel) rfl).trans <|
  (l_aload (show gPG 96 117 = some (.aload 6) by decide +kernel) rfl (jr_aR hw2)).trans <|
  (l_aast (show gPG 96 119 = some (.aastore) by decide +kernel) ).trans <| bd_cg fun m8 hm8 =>
  (l_iinc (show gPG 96 120 = some (.iinc 3 1) by decide +kernel) (c := 1) (by decide +kernel) rfl (show _ = ([.ref a, .int i1, .int i2, .int (i3 + 1), .int i4, .int i5, w2] : List Value) from rfl)).trans <|
  l_goto (show gPG 96 123 = some (.goto (-87)) by decide +kernel) (t := 36) (by decide +kernel)
-- Grid.swap
theorem b97_0 (d : Nat) (μ : jM) (r0 : Value) (i1 : Int32) (i2 : Int32) (h0 : jisref r0 = true) : jR d 97 0 [r0, .int i1, .int i2, .retAddr 0] [] μ = (jaI μ r0 i1).bind fun x1 => (jaI μ r0 i2).bind fun x2 => (jsI μ r0 i1 x2).bind fun m3 => (jsI m3 r0 i2 x1).bind fun m4 => some (none, m4) :=
  (l_aload_n (show gPG 97 0 = some (.aload_n 0) by decide +kernel) rfl h0).trans <|
  (l_iload_n (show gPG 97 1 = some (.iload_n 1) by decide +kernel) rfl).trans <|
  (l_iald (show gPG 97 2 = some (.iaload) by decide +kernel) ).trans <| bd_cg fun x1 hx1 =>
  (l_istore_n (show gPG 97 3 = some (.istore_n 3) by decide +kernel) (ls := [r0, .int i1, .int i2, .retAddr 0]) (show (3 : Nat) < 4 by decide) (show _ = ([r0, .int i1, .int i2, .int x1] : List Value) from rfl)).trans <|
  (l_aload_n (show gPG 97 4 = some (.aload_n 0) by decide +kernel) rfl h0).trans <|
  (l_iload_n (show gPG 97 5 = some (.iload_n 1) by decide +kernel) rfl).trans <|
  (l_aload_n (show gPG 97 6 = some (.aload_n 0) by decide +kernel) rfl h0).trans <|
  (l_iload_n (show gPG 97 7 = some (.iload_n 2) by decide +kernel) rfl).trans <|
  (l_iald (show gPG 97 8 = some (.iaload) by decide +kernel) ).trans <| bd_cg fun x2 hx2 =>
  (l_iast (show gPG 97 9 = some (.iastore) by decide +kernel) ).trans <| bd_cg fun m3 hm3 =>
  (l_aload_n (show gPG 97 10 = some (.aload_n 0) by decide +kernel) rfl h0).trans <|
  (l_iload_n (show gPG 97 11 = some (.iload_n 2) by decide +kernel) rfl).trans <|
  (l_iload_n (show gPG 97 12 = some (.iload_n 3) by decide +kernel) rfl).trans <|
  (l_iast (show gPG 97 13 = some (.iastore) by decide +kernel) ).trans <| bd_cg fun m4 hm4 =>
  l_ret (show gPG 97 14 = some (.return_) by decide +kernel) (by decide +kernel)
-- Grid.removeRow
theorem b98_0 (d : Nat) (μ : jM) (a : Nat) (i1 : Int32) : jR (d + 1) 98 0 [.ref a, .int i1] [] μ = (if i1 < 0 then jR (d + 1) 98 33 [.ref a, .int i1] [] μ else (jgI μ 6 0 (.ref a)).bind fun x1 => (if i1 < x1 then (jgI μ 6 0 (.ref a)).bind fun x2 => (if jrecv μ 6 (.ref a) = true then (jC d 95 [.ref a, .int i1, .int (x2 - 1)] μ).bind fun p3 => jR (d + 1) 98 23 [.ref a, .int i1] (p3.1.toList ++ []) p3.2 else none) else jR (d + 1) 98 33 [.ref a, .int i1] [] μ)) :=
  (l_iload_n (show gPG 98 0 = some (.iload_n 1) by decide +kernel) rfl).trans <|
  (l_cmp0 (show gPG 98 1 = some (.ifCond .lt 32) by decide +kernel) (t := 33) (by decide +kernel)).trans <| jm_lt.trans <| ite_cg (
  rfl) (
  (l_iload_n (show gPG 98 4 = some (.iload_n 1) by decide +kernel) rfl).trans <|
  (l_aload_n (show gPG 98 5 = some (.aload_n 0) by decide +kernel) rfl jr_ref).trans <|
  (l_gI (show gPG 98 6 = some (.getfield 30) by decide +kernel) (kd := 6) (sl := 0) (tc := 0) (fin := 0) (z := 0) (by decide +kernel) (by decide +kernel) (by decide +kernel)).trans <| bd_cg fun x1 hx1 =>
  (l_cmp (show gPG 98 9 = some (.if_icmp .ge 24) by decide +kernel) (t := 33) (by decide +kernel)).trans <| jm_ge.trans <| ite_cg (
  (l_aload_n (show gPG 98 12 = some (.aload_n 0) by decide +kernel) rfl jr_ref).trans <|
  (l_iload_n (show gPG 98 13 = some (.iload_n 1) by decide +kernel) rfl).trans <|
  (l_aload_n (show gPG 98 14 = some (.aload_n 0) by decide +kernel) rfl jr_ref).trans <|
  (l_gI (show gPG 98 15 = some (.getfield 30) by decide +kernel) (kd := 6) (sl := 0) (tc := 0) (fin := 0) (z := 0) (by decide +kernel) (by decide +kernel) (by decide +kernel)).trans <| bd_cg fun x2 hx2 =>
  (l_iconst (show gPG 98 18 = some (.iconst 1) by decide +kernel) (c := 1) (by decide +kernel)).trans <|
  (l_isub (show gPG 98 19 = some (.isub) by decide +kernel) ).trans <|
  l_callV (u := 1) (v := .ref a) (as := [.int i1, .int (x2 - 1)]) (show gPG 98 20 = some (jinvI 1 59) by decide +kernel) (by decide) (cc := 95) (na := 3) (kd := 6) (q4 := 0) (z := 10) (rest := []) (by decide +kernel) (by decide +kernel)  rfl (show (3 : Nat) ≤ 3 by decide) rfl cs0 (by decide +kernel) (cai (cai (cav jr_ref ca0)))) (
  rfl))
theorem b98_23 (d : Nat) (μ : jM) (a : Nat) (u1 : Value) : jR d 98 23 [.ref a, u1] [] μ = (jgI μ 6 0 (.ref a)).bind fun x1 => (jpI μ 6 0 0 (.ref a) (x1 - 1)).bind fun m2 => jR d 98 33 [.ref a, u1] [] m2 :=
  (l_aload_n (show gPG 98 23 = some (.aload_n 0) by decide +kernel) rfl jr_ref).trans <|
  (l_dup (show gPG 98 24 = some (.dup) by decide +kernel) (jr_cat1 jr_ref)).trans <|
  (l_gI (show gPG 98 25 = some (.getfield 30) by decide +kernel) (kd := 6) (sl := 0) (tc := 0) (fin := 0) (z := 0) (by decide +kernel) (by decide +kernel) (by decide +kernel)).trans <| bd_cg fun x1 hx1 =>
  (l_iconst (show gPG 98 28 = some (.iconst 1) by decide +kernel) (c := 1) (by decide +kernel)).trans <|
  (l_isub (show gPG 98 29 = some (.isub) by decide +kernel) ).trans <|
  (l_pI (show gPG 98 30 = some (.putfield 30) by decide +kernel) (kd := 6) (sl := 0) (tc := 0) (fin := 0) (z := 0) (by decide +kernel) (by decide +kernel) (by decide +kernel)).trans <| bd_cg fun m2 hm2 =>
  rfl
theorem b98_33 (d : Nat) (μ : jM) (u0 : Value) (u1 : Value) : jR d 98 33 [u0, u1] [] μ = some (none, μ) :=
  l_ret (show gPG 98 33 = some (.return_) by decide +kernel) (by decide +kernel)
-- Grid.noteAt
theorem b99_0 (d : Nat) (μ : jM) (a : Nat) (i1 : Int32) (i2 : Int32) : jR (d + 1) 99 0 [.ref a, .int i1, .int i2, .retAddr 0] [] μ = (if jrecv μ 6 (.ref a) = true then (jC d 88 [.ref a, .int i1, .int i2] μ).bind fun p1 => jR (d + 1) 99 6 [.ref a, .int i1, .int i2, .retAddr 0] (p1.1.toList ++ []) p1.2 else none) :=
  (l_aload_n (show gPG 99 0 = some (.aload_n 0) by decide +kernel) rfl jr_ref).trans <|
  (l_iload_n (show gPG 99 1 = some (.iload_n 1) by decide +kernel) rfl).trans <|
  (l_iload_n (show gPG 99 2 = some (.iload_n 2) by decide +kernel) rfl).trans <|
  l_callV (u := 1) (v := .ref a) (as := [.int i1, .int i2]) (show gPG 99 3 = some (jinvI 1 34) by decide +kernel) (by decide) (cc := 88) (na := 3) (kd := 6) (q4 := 0) (z := 10) (rest := []) (by decide +kernel) (by decide +kernel)  rfl (show (3 : Nat) ≤ 3 by decide) rfl cs0 (by decide +kernel) (cai (cai (cav jr_ref ca0)))
theorem b99_6 (d : Nat) (μ : jM) (a : Nat) (u1 : Value) (u2 : Value) (u3 : Value) (s0 : Int32) : jR d 99 6 [.ref a, u1, u2, u3] [.int s0] μ = (if s0 = (-1) then jR d 99 22 [.ref a, u1, u2, .int s0] [.int 0] μ else (jgR μ 6 5 (.ref a)).bind fun w1 => (jaI μ w1 s0).bind fun x2 => jR d 99 22 [.ref a, u1, u2, .int s0] [.int x2] μ) :=
  (l_istore_n (show gPG 99 6 = some (.istore_n 3) by decide +kernel) (ls := [.ref a, u1, u2, u3]) (show (3 : Nat) < 4 by decide) (show _ = ([.ref a, u1, u2, .int s0] : List Value) from rfl)).trans <|
  (l_iload_n (show gPG 99 7 = some (.iload_n 3) by decide +kernel) rfl).trans <|
  (l_iconst (show gPG 99 8 = some (.iconst (-1)) by decide +kernel) (c := (-1)) (by decide +kernel)).trans <|
  (l_cmp (show gPG 99 9 = some (.if_icmp .ne 7) by decide +kernel) (t := 16) (by decide +kernel)).trans <| jm_ne.trans <| ite_cg (
  (l_iconst (show gPG 99 12 = some (.iconst 0) by decide +kernel) (c := 0) (by decide +kernel)).trans <|
  l_goto (show gPG 99 13 = some (.goto 9) by decide +kernel) (t := 22) (by decide +kernel)) (
  (l_aload_n (show gPG 99 16 = some (.aload_n 0) by decide +kernel) rfl jr_ref).trans <|
  (l_gR (show gPG 99 17 = some (.getfield 27) by decide +kernel) (kd := 6) (sl := 5) (tc := 1) (fin := 1) (z := 0) (by decide +kernel) (by decide +kernel) (by decide +kernel)).trans <| bd_cg fun w1 hw1 =>
  (l_iload_n (show gPG 99 20 = some (.iload_n 3) by decide +kernel) rfl).trans <|
  (l_iald (show gPG 99 21 = some (.iaload) by decide +kernel) ).trans <| bd_cg fun x2 hx2 =>
  rfl)
theorem b99_22 (d : Nat) (μ : jM) (u0 : Value) (u1 : Value) (u2 : Value) (u3 : Value) (s0 : Int32) : jR d 99 22 [u0, u1, u2, u3] [.int s0] μ = some (some (.int s0), μ) :=
  l_iret1 (show gPG 99 22 = some (.ireturn) by decide +kernel) (by decide +kernel)
-- Grid.fillBelow
theorem b100_0 (d : Nat) (μ : jM) (a : Nat) (i1 : Int32) (i2 : Int32) (i3 : Int32) : jR (d + 1) 100 0 [.ref a, .int i1, .int i2, .int i3, .retAddr 0, .retAddr 0, .retAddr 0, .retAddr 0, .retAddr 0] [] μ = (jgI μ 6 0 (.ref a)).bind fun x1 => (jC d 279 [.int i3, .int ((x1 - 1) - i1)] μ).bind fun p2 => jR (d + 1) 100 12 [.ref a, .int i1, .int i2, .int i3, .retAddr 0, .retAddr 0, .retAddr 0, .retAddr 0, .retAddr 0] (p2.1.toList ++ []) p2.2 :=
  (l_iload_n (show gPG 100 0 = some (.iload_n 3) by decide +kernel) rfl).trans <|
  (l_aload_n (show gPG 100 1 = some (.aload_n 0) by decide +kernel) rfl jr_ref).trans <|
  (l_gI (show gPG 100 2 = some (.getfield 30) by decide +kernel) (kd := 6) (sl := 0) (tc := 0) (fin := 0) (z := 0) (by decide +kernel) (by decide +kernel) (by decide +kernel)).trans <| bd_cg fun x1 hx1 =>
  (l_iconst (show gPG 100 5 = some (.iconst 1) by decide +kernel) (c := 1) (by decide +kernel)).trans <|
  (l_isub (show gPG 100 6 = some (.isub) by decide +kernel) ).trans <|
  (l_iload_n (show gPG 100 7 = some (.iload_n 1) by decide +kernel) rfl).trans <|
  (l_isub (show gPG 100 8 = some (.isub) by decide +kernel) ).trans <|
  l_callS (u := 2) (as := [.int i3, .int ((x1 - 1) - i1)]) (show gPG 100 9 = some (jinvI 2 70) by decide +kernel) (by decide) (cc := 279) (na := 2) (q4 := 0) (z := 12) (rest := []) (by decide +kernel) (by decide +kernel)  rfl (show (2 : Nat) ≤ 2 by decide) rfl cs0 (by decide +kernel) (cai (cai ca0)) (fun e => absurd e (by decide))
theorem b100_12 (d : Nat) (μ : jM) (a : Nat) (i1 : Int32) (i2 : Int32) (u3 : Value) (u4 : Value) (u5 : Value) (u6 : Value) (u7 : Value) (u8 : Value) (s0 : Int32) : jR (d + 1) 100 12 [.ref a, .int i1, .int i2, u3, u4, u5, u6, u7, u8] [.int s0] μ = (if jrecv μ 6 (.ref a) = true then (jC d 101 [.ref a, .int i1, .int i2] μ).bind fun p1 => jR (d + 1) 100 20 [.ref a, .int i1, .int i2, u3, .int s0, u5, u6, u7, u8] (p1.1.toList ++ []) p1.2 else none) :=
  (l_istore (show gPG 100 12 = some (.istore 4) by decide +kernel) (ls := [.ref a, .int i1, .int i2, u3, u4, u5, u6, u7, u8]) (show (4 : Nat) < 9 by decide) (show _ = ([.ref a, .int i1, .int i2, u3, .int s0, u5, u6, u7, u8] : List Value) from rfl)).trans <|
  (l_aload_n (show gPG 100 14 = some (.aload_n 0) by decide +kernel) rfl jr_ref).trans <|
  (l_iload_n (show gPG 100 15 = some (.iload_n 1) by decide +kernel) rfl).trans <|
  (l_iload_n (show gPG 100 16 = some (.iload_n 2) by decide +kernel) rfl).trans <|
  l_callV (u := 1) (v := .ref a) (as := [.int i1, .int i2]) (show gPG 100 17 = some (jinvI 1 75) by decide +kernel) (by decide) (cc := 101) (na := 3) (kd := 6) (q4 := 0) (z := 10) (rest := []) (by decide +kernel) (by decide +kernel)  rfl (show (3 : Nat) ≤ 3 by decide) rfl cs0 (by decide +kernel) (cai (cai (cav jr_ref ca0)))
theorem b100_20 (d : Nat) (μ : jM) (a : Nat) (i1 : Int32) (i2 : Int32) (u3 : Value) (i4 : Int32) (u5 : Value) (u6 : Value) (u7 : Value) (u8 : Value) (s0 : Int32) : jR (d + 1) 100 20 [.ref a, .int i1, .int i2, u3, .int i4, u5, u6, u7, u8] [.int s0] μ = (if jrecv μ 6 (.ref a) = true then (jC d 102 [.ref a, .int i1, .int i2] μ).bind fun p1 => jR (d + 1) 100 28 [.ref a, .int i1, .int i2, u3, .int i4, .int s0, u6, u7, u8] (p1.1.toList ++ []) p1.2 else none) :=
  (l_istore (show gPG 100 20 = some (.istore 5) by decide +kernel) (ls := [.ref a, .int i1, .int i2, u3, .int i4, u5, u6, u7, u8]) (show (5 : Nat) < 9 by decide) (show _ = ([.ref a, .int i1, .int i2, u3, .int i4, .int s0, u6, u7, u8] : List Value) from rfl)).trans <|
  (l_aload_n (show gPG 100 22 = some (.aload_n 0) by decide +kernel) rfl jr_ref).trans <|
  (l_iload_n (show gPG 100 23 = some (.iload_n 1) by decide +kernel) rfl).trans <|
  (l_iload_n (show gPG 100 24 = some (.iload_n 2) by decide +kernel) rfl).trans <|
  l_callV (u := 1) (v := .ref a) (as := [.int i1, .int i2]) (show gPG 100 25 = some (jinvI 1 78) by decide +kernel) (by decide) (cc := 102) (na := 3) (kd := 6) (q4 := 0) (z := 10) (rest := []) (by decide +kernel) (by decide +kernel)  rfl (show (3 : Nat) ≤ 3 by decide) rfl cs0 (by decide +kernel) (cai (cai (cav jr_ref ca0)))
theorem b100_28 (d : Nat) (μ : jM) (a : Nat) (i1 : Int32) (i2 : Int32) (u3 : Value) (i4 : Int32) (i5 : Int32) (u6 : Value) (u7 : Value) (u8 : Value) (s0 : Int32) : jR (d + 1) 100 28 [.ref a, .int i1, .int i2, u3, .int i4, .int i5, u6, u7, u8] [.int s0] μ = (if jrecv μ 6 (.ref a) = true then (jC d 103 [.ref a, .int i1, .int i2] μ).bind fun p1 => jR (d + 1) 100 36 [.ref a, .int i1, .int i2, u3, .int i4, .int i5, .int s0, u7, u8] (p1.1.toList ++ []) p1.2 else none) :=
  (l_istore (show gPG 100 28 = some (.istore 6) by decide +kernel) (ls := [.ref a, .int i1, .int i2, u3, .int i4, .int i5, u6, u7, u8]) (show (6 : Nat) < 9 by decide) (show _ = ([.ref a, .int i1, .int i2, u3, .int i4, .int i5, .int s0, u7, u8] : List Value) from rfl)).trans <|
  (l_aload_n (show gPG 100 30 = some (.aload_n 0) by decide +kernel) rfl jr_ref).trans <|
  (l_iload_n (show gPG 100 31 = some (.iload_n 1) by decide +kernel) rfl).trans <|
  (l_iload_n (show gPG 100 32 = some (.iload_n 2) by decide +kernel) rfl).trans <|
  l_callV (u := 1) (v := .ref a) (as := [.int i1, .int i2]) (show gPG 100 33 = some (jinvI 1 81) by decide +kernel) (by decide) (cc := 103) (na := 3) (kd := 6) (q4 := 0) (z := 10) (rest := []) (by decide +kernel) (by decide +kernel)  rfl (show (3 : Nat) ≤ 3 by decide) rfl cs0 (by decide +kernel) (cai (cai (cav jr_ref ca0)))
theorem b100_36 (d : Nat) (μ : jM) (a : Nat) (i1 : Int32) (i2 : Int32) (u3 : Value) (i4 : Int32) (i5 : Int32) (i6 : Int32) (u7 : Value) (u8 : Value) (s0 : Value) (hs0 : jisref s0 = true) : jR d 100 36 [.ref a, .int i1, .int i2, u3, .int i4, .int i5, .int i6, u7, u8] [s0] μ = jR d 100 41 [.ref a, .int i1, .int i2, u3, .int i4, .int i5, .int i6, s0, .int 1] [] μ :=
  (l_astore (show gPG 100 36 = some (.astore 7) by decide +kernel) (ls := [.ref a, .int i1, .int i2, u3, .int i4, .int i5, .int i6, u7, u8]) hs0 (show (7 : Nat) < 9 by decide) (show _ = ([.ref a, .int i1, .int i2, u3, .int i4, .int i5, .int i6, s0, u8] : List Value) from rfl)).trans <|
  (l_iconst (show gPG 100 38 = some (.iconst 1) by decide +kernel) (c := 1) (by decide +kernel)).trans <|
  l_istore (show gPG 100 39 = some (.istore 8) by decide +kernel) (ls := [.ref a, .int i1, .int i2, u3, .int i4, .int i5, .int i6, s0, u8]) (show (8 : Nat) < 9 by decide) (show _ = ([.ref a, .int i1, .int i2, u3, .int i4, .int i5, .int i6, s0, .int 1] : List Value) from rfl)
theorem b100_41 (d : Nat) (μ : jM) (a : Nat) (i1 : Int32) (i2 : Int32) (u3 : Value) (i4 : Int32) (i5 : Int32) (i6 : Int32) (r7 : Value) (i8 : Int32) (h7 : jisref r7 = true) : jR (d + 1) 100 41 [.ref a, .int i1, .int i2, u3, .int i4, .int i5, .int i6, r7, .int i8] [] μ = (if i4 < i8 then some (some (.int i4), μ) else (if jun r7 = none then jR (d + 1) 100 75 [.ref a, .int i1, .int i2, u3, .int i4, .int i5, .int i6, r7, .int i8] [.null, .int i6, .int i5, .int i2, .int (i1 + i8), .ref a] μ else (if jrecv μ 5 r7 = true then (jC d 81 [r7, .ref a, .int i8] μ).bind fun p1 => jR (d + 1) 100 75 [.ref a, .int i1, .int i2, u3, .int i4, .int i5, .int i6, r7, .int i8] (p1.1.toList ++ [.int i6, .int i5, .int i2, .int (i1 + i8), .ref a]) p1.2 else none))) :=
  (l_iload (show gPG 100 41 = some (.iload 8) by decide +kernel) rfl).trans <|
  (l_iload (show gPG 100 43 = some (.iload 4) by decide +kernel) rfl).trans <|
  (l_cmp (show gPG 100 45 = some (.if_icmp .gt 39) by decide +kernel) (t := 84) (by decide +kernel)).trans <| jm_gt.trans <| ite_cg (
  (l_iload (show gPG 100 84 = some (.iload 4) by decide +kernel) rfl).trans <|
  l_iret1 (show gPG 100 86 = some (.ireturn) by decide +kernel) (by decide +kernel)) (
  (l_aload_n (show gPG 100 48 = some (.aload_n 0) by decide +kernel) rfl jr_ref).trans <|
  (l_iload_n (show gPG 100 49 = some (.iload_n 1) by decide +kernel) rfl).trans <|
  (l_iload (show gPG 100 50 = some (.iload 8) by decide +kernel) rfl).trans <|
  (l_iadd (show gPG 100 52 = some (.iadd) by decide +kernel) ).trans <|
  (l_iload_n (show gPG 100 53 = some (.iload_n 2) by decide +kernel) rfl).trans <|
  (l_iload (show gPG 100 54 = some (.iload 5) by decide +kernel) rfl).trans <|
  (l_iload (show gPG 100 56 = some (.iload 6) by decide +kernel) rfl).trans <|
  (l_aload (show gPG 100 58 = some (.aload 7) by decide +kernel) rfl h7).trans <|
  (l_ifnonnull (show gPG 100 60 = some (.ifnonnull 7) by decide +kernel) h7 (t := 67) (by decide +kernel)).trans <| ite_cg (
  (l_anull (show gPG 100 63 = some (.aconst_null) by decide +kernel) ).trans <|
  l_goto (show gPG 100 64 = some (.goto 11) by decide +kernel) (t := 75) (by decide +kernel)) (
  (l_aload (show gPG 100 67 = some (.aload 7) by decide +kernel) rfl h7).trans <|
  (l_aload_n (show gPG 100 69 = some (.aload_n 0) by decide +kernel) rfl jr_ref).trans <|
  (l_iload (show gPG 100 70 = some (.iload 8) by decide +kernel) rfl).trans <|
  l_callV (u := 1) (v := r7) (as := [.ref a, .int i8]) (show gPG 100 72 = some (jinvI 1 85) by decide +kernel) (by decide) (cc := 81) (na := 3) (kd := 5) (q4 := 0) (z := 11) (rest := [.int i6, .int i5, .int i2, .int (i1 + i8), .ref a]) (by decide +kernel) (by decide +kernel)  rfl (show (3 : Nat) ≤ 8 by decide) rfl (csi (csi (csi (csi (csv jr_ref cs0))))) (by decide +kernel) (cai (cav jr_ref (cav h7 ca0)))))
theorem b100_75 (d : Nat) (μ : jM) (a : Nat) (i1 : Int32) (i2 : Int32) (u3 : Value) (i4 : Int32) (i5 : Int32) (i6 : Int32) (r7 : Value) (i8 : Int32) (s0 : Value) (s1 : Int32) (s2 : Int32) (s3 : Int32) (s4 : Int32) (s5 : Value) (h7 : jisref r7 = true) (hs0 : jisref s0 = true) (hs5 : jisref s5 = true) : jR (d + 1) 100 75 [.ref a, .int i1, .int i2, u3, .int i4, .int i5, .int i6, r7, .int i8] [s5, .int s4, .int s3, .int s2, .int s1, s0] μ = (if jrecv μ 6 s0 = true then (jC d 91 [s0, .int s1, .int s2, .int s3, .int s4, s5] μ).bind fun p1 => jR (d + 1) 100 78 [.ref a, .int i1, .int i2, u3, .int i4, .int i5, .int i6, r7, .int i8] (p1.1.toList ++ []) p1.2 else none) :=
  l_callV (u := 1) (v := s0) (as := [.int s1, .int s2, .int s3, .int s4, s5]) (show gPG 100 75 = some (jinvI 1 55) by decide +kernel) (by decide) (cc := 91) (na := 6) (kd := 6) (q4 := 0) (z := 10) (rest := []) (by decide +kernel) (by decide +kernel)  rfl (show (6 : Nat) ≤ 6 by decide) rfl cs0 (by decide +kernel) (cav hs5 (cai (cai (cai (cai (cav hs0 ca0))))))
theorem b100_78 (d : Nat) (μ : jM) (a : Nat) (i1 : Int32) (i2 : Int32) (u3 : Value) (i4 : Int32) (i5 : Int32) (i6 : Int32) (r7 : Value) (i8 : Int32) (h7 : jisref r7 = true) : jR d 100 78 [.ref a, .int i1, .int i2, u3, .int i4, .int i5, .int i6, r7, .int i8] [] μ = jR d 100 41 [.ref a, .int i1, .int i2, u3, .int i4, .int i5, .int i6, r7, .int (i8 + 1)] [] μ :=
  (l_iinc (show gPG 100 78 = some (.iinc 8 1) by decide +kernel) (c := 1) (by decide +kernel) rfl (show _ = ([.ref a, .int i1, .int i2, u3, .int i4, .int i5, .int i6, r7, .int (i8 + 1)] : List Value) from rfl)).trans <|
  l_goto (show gPG 100 81 = some (.goto (-40)) by decide +kernel) (t := 41) (by decide +kernel)
-- Grid.kindAt
theorem b101_0 (d : Nat) (μ : jM) (a : Nat) (i1 : Int32) (i2 : Int32) : jR (d + 1) 101 0 [.ref a, .int i1, .int i2, .retAddr 0] [] μ = (if jrecv μ 6 (.ref a) = true then (jC d 88 [.ref a, .int i1, .int i2] μ).bind fun p1 => jR (d + 1) 101 6 [.ref a, .int i1, .int i2, .retAddr 0] (p1.1.toList ++ []) p1.2 else none) :=
  (l_aload_n (show gPG 101 0 = some (.aload_n 0) by decide +kernel) rfl jr_ref).trans <|
  (l_iload_n (show gPG 101 1 = some (.iload_n 1) by decide +kernel) rfl).trans <|
  (l_iload_n (show gPG 101 2 = some (.iload_n 2) by decide +kernel) rfl).trans <|
  l_callV (u := 1) (v := .ref a) (as := [.int i1, .int i2]) (show gPG 101 3 = some (jinvI 1 34) by decide +kernel) (by decide) (cc := 88) (na := 3) (kd := 6) (q4 := 0) (z := 10) (rest := []) (by decide +kernel) (by decide +kernel)  rfl (show (3 : Nat) ≤ 3 by decide) rfl cs0 (by decide +kernel) (cai (cai (cav jr_ref ca0)))
theorem b101_6 (d : Nat) (μ : jM) (a : Nat) (u1 : Value) (u2 : Value) (u3 : Value) (s0 : Int32) : jR d 101 6 [.ref a, u1, u2, u3] [.int s0] μ = (if s0 = (-1) then jR d 101 22 [.ref a, u1, u2, .int s0] [.int 0] μ else (jgR μ 6 2 (.ref a)).bind fun w1 => (jaI μ w1 s0).bind fun x2 => jR d 101 22 [.ref a, u1, u2, .int s0] [.int x2] μ) :=
  (l_istore_n (show gPG 101 6 = some (.istore_n 3) by decide +kernel) (ls := [.ref a, u1, u2, u3]) (show (3 : Nat) < 4 by decide) (show _ = ([.ref a, u1, u2, .int s0] : List Value) from rfl)).trans <|
  (l_iload_n (show gPG 101 7 = some (.iload_n 3) by decide +kernel) rfl).trans <|
  (l_iconst (show gPG 101 8 = some (.iconst (-1)) by decide +kernel) (c := (-1)) (by decide +kernel)).trans <|
  (l_cmp (show gPG 101 9 = some (.if_icmp .ne 7) by decide +kernel) (t := 16) (by decide +kernel)).trans <| jm_ne.trans <| ite_cg (
  (l_iconst (show gPG 101 12 = some (.iconst 0) by decide +kernel) (c := 0) (by decide +kernel)).trans <|
  l_goto (show gPG 101 13 = some (.goto 9) by decide +kernel) (t := 22) (by decide +kernel)) (
  (l_aload_n (show gPG 101 16 = some (.aload_n 0) by decide +kernel) rfl jr_ref).trans <|
  (l_gR (show gPG 101 17 = some (.getfield 15) by decide +kernel) (kd := 6) (sl := 2) (tc := 1) (fin := 1) (z := 0) (by decide +kernel) (by decide +kernel) (by decide +kernel)).trans <| bd_cg fun w1 hw1 =>
  (l_iload_n (show gPG 101 20 = some (.iload_n 3) by decide +kernel) rfl).trans <|
  (l_iald (show gPG 101 21 = some (.iaload) by decide +kernel) ).trans <| bd_cg fun x2 hx2 =>
  rfl)
theorem b101_22 (d : Nat) (μ : jM) (u0 : Value) (u1 : Value) (u2 : Value) (u3 : Value) (s0 : Int32) : jR d 101 22 [u0, u1, u2, u3] [.int s0] μ = some (some (.int s0), μ) :=
  l_iret1 (show gPG 101 22 = some (.ireturn) by decide +kernel) (by decide +kernel)
-- Grid.numberAt
theorem b102_0 (d : Nat) (μ : jM) (a : Nat) (i1 : Int32) (i2 : Int32) : jR (d + 1) 102 0 [.ref a, .int i1, .int i2, .retAddr 0] [] μ = (if jrecv μ 6 (.ref a) = true then (jC d 88 [.ref a, .int i1, .int i2] μ).bind fun p1 => jR (d + 1) 102 6 [.ref a, .int i1, .int i2, .retAddr 0] (p1.1.toList ++ []) p1.2 else none) :=
  (l_aload_n (show gPG 102 0 = some (.aload_n 0) by decide +kernel) rfl jr_ref).trans <|
  (l_iload_n (show gPG 102 1 = some (.iload_n 1) by decide +kernel) rfl).trans <|
  (l_iload_n (show gPG 102 2 = some (.iload_n 2) by decide +kernel) rfl).trans <|
  l_callV (u := 1) (v := .ref a) (as := [.int i1, .int i2]) (show gPG 102 3 = some (jinvI 1 34) by decide +kernel) (by decide) (cc := 88) (na := 3) (kd := 6) (q4 := 0) (z := 10) (rest := []) (by decide +kernel) (by decide +kernel)  rfl (show (3 : Nat) ≤ 3 by decide) rfl cs0 (by decide +kernel) (cai (cai (cav jr_ref ca0)))
theorem b102_6 (d : Nat) (μ : jM) (a : Nat) (u1 : Value) (u2 : Value) (u3 : Value) (s0 : Int32) : jR d 102 6 [.ref a, u1, u2, u3] [.int s0] μ = (if s0 = (-1) then jR d 102 22 [.ref a, u1, u2, .int s0] [.int 0] μ else (jgR μ 6 3 (.ref a)).bind fun w1 => (jaI μ w1 s0).bind fun x2 => jR d 102 22 [.ref a, u1, u2, .int s0] [.int x2] μ) :=
  (l_istore_n (show gPG 102 6 = some (.istore_n 3) by decide +kernel) (ls := [.ref a, u1, u2, u3]) (show (3 : Nat) < 4 by decide) (show _ = ([.ref a, u1, u2, .int s0] : List Value) from rfl)).trans <|
  (l_iload_n (show gPG 102 7 = some (.iload_n 3) by decide +kernel) rfl).trans <|
  (l_iconst (show gPG 102 8 = some (.iconst (-1)) by decide +kernel) (c := (-1)) (by decide +kernel)).trans <|
  (l_cmp (show gPG 102 9 = some (.if_icmp .ne 7) by decide +kernel) (t := 16) (by decide +kernel)).trans <| jm_ne.trans <| ite_cg (
  (l_iconst (show gPG 102 12 = some (.iconst 0) by decide +kernel) (c := 0) (by decide +kernel)).trans <|
  l_goto (show gPG 102 13 = some (.goto 9) by decide +kernel) (t := 22) (by decide +kernel)) (
  (l_aload_n (show gPG 102 16 = some (.aload_n 0) by decide +kernel) rfl jr_ref).trans <|
  (l_gR (show gPG 102 17 = some (.getfield 18) by decide +kernel) (kd := 6) (sl := 3) (tc := 1) (fin := 1) (z := 0) (by decide +kernel) (by decide +kernel) (by decide +kernel)).trans <| bd_cg fun w1 hw1 =>
  (l_iload_n (show gPG 102 20 = some (.iload_n 3) by decide +kernel) rfl).trans <|
  (l_iald (show gPG 102 21 = some (.iaload) by decide +kernel) ).trans <| bd_cg fun x2 hx2 =>
  rfl)
theorem b102_22 (d : Nat) (μ : jM) (u0 : Value) (u1 : Value) (u2 : Value) (u3 : Value) (s0 : Int32) : jR d 102 22 [u0, u1, u2, u3] [.int s0] μ = some (some (.int s0), μ) :=
  l_iret1 (show gPG 102 22 = some (.ireturn) by decide +kernel) (by decide +kernel)
-- Grid.formulaAt
theorem b103_0 (d : Nat) (μ : jM) (a : Nat) (i1 : Int32) (i2 : Int32) : jR (d + 1) 103 0 [.ref a, .int i1, .int i2, .retAddr 0] [] μ = (if jrecv μ 6 (.ref a) = true then (jC d 88 [.ref a, .int i1, .int i2] μ).bind fun p1 => jR (d + 1) 103 6 [.ref a, .int i1, .int i2, .retAddr 0] (p1.1.toList ++ []) p1.2 else none) :=
  (l_aload_n (show gPG 103 0 = some (.aload_n 0) by decide +kernel) rfl jr_ref).trans <|
  (l_iload_n (show gPG 103 1 = some (.iload_n 1) by decide +kernel) rfl).trans <|
  (l_iload_n (show gPG 103 2 = some (.iload_n 2) by decide +kernel) rfl).trans <|
  l_callV (u := 1) (v := .ref a) (as := [.int i1, .int i2]) (show gPG 103 3 = some (jinvI 1 34) by decide +kernel) (by decide) (cc := 88) (na := 3) (kd := 6) (q4 := 0) (z := 10) (rest := []) (by decide +kernel) (by decide +kernel)  rfl (show (3 : Nat) ≤ 3 by decide) rfl cs0 (by decide +kernel) (cai (cai (cav jr_ref ca0)))
theorem b103_6 (d : Nat) (μ : jM) (a : Nat) (u1 : Value) (u2 : Value) (u3 : Value) (s0 : Int32) : jR d 103 6 [.ref a, u1, u2, u3] [.int s0] μ = (if s0 = (-1) then jR d 103 22 [.ref a, u1, u2, .int s0] [.null] μ else (jgR μ 6 4 (.ref a)).bind fun w1 => (jaR μ w1 s0).bind fun w2 => jR d 103 22 [.ref a, u1, u2, .int s0] [w2] μ) :=
  (l_istore_n (show gPG 103 6 = some (.istore_n 3) by decide +kernel) (ls := [.ref a, u1, u2, u3]) (show (3 : Nat) < 4 by decide) (show _ = ([.ref a, u1, u2, .int s0] : List Value) from rfl)).trans <|
  (l_iload_n (show gPG 103 7 = some (.iload_n 3) by decide +kernel) rfl).trans <|
  (l_iconst (show gPG 103 8 = some (.iconst (-1)) by decide +kernel) (c := (-1)) (by decide +kernel)).trans <|
  (l_cmp (show gPG 103 9 = some (.if_icmp .ne 7) by decide +kernel) (t := 16) (by decide +kernel)).trans <| jm_ne.trans <| ite_cg (
  (l_anull (show gPG 103 12 = some (.aconst_null) by decide +kernel) ).trans <|
  l_goto (show gPG 103 13 = some (.goto 9) by decide +kernel) (t := 22) (by decide +kernel)) (
  (l_aload_n (show gPG 103 16 = some (.aload_n 0) by decide +kernel) rfl jr_ref).trans <|
  (l_gR (show gPG 103 17 = some (.getfield 23) by decide +kernel) (kd := 6) (sl := 4) (tc := 1) (fin := 1) (z := 0) (by decide +kernel) (by decide +kernel) (by decide +kernel)).trans <| bd_cg fun w1 hw1 =>
  (l_iload_n (show gPG 103 20 = some (.iload_n 3) by decide +kernel) rfl).trans <|
  (l_aald (show gPG 103 21 = some (.aaload) by decide +kernel) ).trans <| bd_cg fun w2 hw2 =>
  rfl)
theorem b103_22 (d : Nat) (μ : jM) (u0 : Value) (u1 : Value) (u2 : Value) (u3 : Value) (s0 : Value) (hs0 : jisref s0 = true) : jR d 103 22 [u0, u1, u2, u3] [s0] μ = some (some s0, μ) :=
  l_aret (show gPG 103 22 = some (.areturn) by decide +kernel) (by decide +kernel) hs0
-- Grid.keyBelow
theorem b104_0 (d : Nat) (μ : jM) (a : Nat) (i1 : Int32) (i2 : Int32) : jR (d + 1) 104 0 [.ref a, .int i1, .int i2, .retAddr 0] [] μ = (if jrecv μ 6 (.ref a) = true then (jC d 92 [.ref a, .int i1] μ).bind fun p1 => jR (d + 1) 104 5 [.ref a, .int i1, .int i2, .retAddr 0] (p1.1.toList ++ []) p1.2 else none) :=
  (l_aload_n (show gPG 104 0 = some (.aload_n 0) by decide +kernel) rfl jr_ref).trans <|
  (l_iload_n (show gPG 104 1 = some (.iload_n 1) by decide +kernel) rfl).trans <|
  l_callV (u := 1) (v := .ref a) (as := [.int i1]) (show gPG 104 2 = some (jinvI 1 89) by decide +kernel) (by decide) (cc := 92) (na := 2) (kd := 6) (q4 := 0) (z := 10) (rest := []) (by decide +kernel) (by decide +kernel)  rfl (show (2 : Nat) ≤ 2 by decide) rfl cs0 (by decide +kernel) (cai (cav jr_ref ca0))
theorem b104_5 (d : Nat) (μ : jM) (a : Nat) (u1 : Value) (i2 : Int32) (u3 : Value) (s0 : Int32) : jR (d + 1) 104 5 [.ref a, u1, .int i2, u3] [.int s0] μ = (if s0 = (-1) then jR (d + 1) 104 22 [.ref a, u1, .int i2, .int s0] [.int 0] μ else (if jrecv μ 6 (.ref a) = true then (jC d 89 [.ref a, .int (s0 + i2)] μ).bind fun p1 => jR (d + 1) 104 22 [.ref a, u1, .int i2, .int s0] (p1.1.toList ++ []) p1.2 else none)) :=
  (l_istore_n (show gPG 104 5 = some (.istore_n 3) by decide +kernel) (ls := [.ref a, u1, .int i2, u3]) (show (3 : Nat) < 4 by decide) (show _ = ([.ref a, u1, .int i2, .int s0] : List Value) from rfl)).trans <|
  (l_iload_n (show gPG 104 6 = some (.iload_n 3) by decide +kernel) rfl).trans <|
  (l_iconst (show gPG 104 7 = some (.iconst (-1)) by decide +kernel) (c := (-1)) (by decide +kernel)).trans <|
  (l_cmp (show gPG 104 8 = some (.if_icmp .ne 7) by decide +kernel) (t := 15) (by decide +kernel)).trans <| jm_ne.trans <| ite_cg (
  (l_iconst (show gPG 104 11 = some (.iconst 0) by decide +kernel) (c := 0) (by decide +kernel)).trans <|
  l_goto (show gPG 104 12 = some (.goto 10) by decide +kernel) (t := 22) (by decide +kernel)) (
  (l_aload_n (show gPG 104 15 = some (.aload_n 0) by decide +kernel) rfl jr_ref).trans <|
  (l_iload_n (show gPG 104 16 = some (.iload_n 3) by decide +kernel) rfl).trans <|
  (l_iload_n (show gPG 104 17 = some (.iload_n 2) by decide +kernel) rfl).trans <|
  (l_iadd (show gPG 104 18 = some (.iadd) by decide +kernel) ).trans <|
  l_callV (u := 1) (v := .ref a) (as := [.int (s0 + i2)]) (show gPG 104 19 = some (jinvI 1 93) by decide +kernel) (by decide) (cc := 89) (na := 2) (kd := 6) (q4 := 0) (z := 10) (rest := []) (by decide +kernel) (by decide +kernel)  rfl (show (2 : Nat) ≤ 2 by decide) rfl cs0 (by decide +kernel) (cai (cav jr_ref ca0)))
theorem b104_22 (d : Nat) (μ : jM) (u0 : Value) (u1 : Value) (u2 : Value) (u3 : Value) (s0 : Int32) : jR d 104 22 [u0, u1, u2, u3] [.int s0] μ = some (some (.int s0), μ) :=
  l_iret1 (show gPG 104 22 = some (.ireturn) by decide +kernel) (by decide +kernel)
-- Grid.printCell
theorem b105_0 (d : Nat) (μ : jM) (a : Nat) (i1 : Int32) (i2 : Int32) (r3 : Value) (h3 : jisref r3 = true) : jR (d + 1) 105 0 [.ref a, .int i1, .int i2, r3, .retAddr 0] [] μ = (if jrecv μ 6 (.ref a) = true then (jC d 103 [.ref a, .int i1, .int i2] μ).bind fun p1 => jR (d + 1) 105 6 [.ref a, .int i1, .int i2, r3, .retAddr 0] (p1.1.toList ++ []) p1.2 else none) :=
  (l_aload_n (show gPG 105 0 = some (.aload_n 0) by decide +kernel) rfl jr_ref).trans <|
  (l_iload_n (show gPG 105 1 = some (.iload_n 1) by decide +kernel) rfl).trans <|
  (l_iload_n (show gPG 105 2 = some (.iload_n 2) by decide +kernel) rfl).trans <|
  l_callV (u := 1) (v := .ref a) (as := [.int i1, .int i2]) (show gPG 105 3 = some (jinvI 1 81) by decide +kernel) (by decide) (cc := 103) (na := 3) (kd := 6) (q4 := 0) (z := 10) (rest := []) (by decide +kernel) (by decide +kernel)  rfl (show (3 : Nat) ≤ 3 by decide) rfl cs0 (by decide +kernel) (cai (cai (cav jr_ref ca0)))
theorem b105_6 (d : Nat) (μ : jM) (a : Nat) (i1 : Int32) (i2 : Int32) (r3 : Value) (u4 : Value) (s0 : Value) (h3 : jisref r3 = true) (hs0 : jisref s0 = true) : jR (d + 1) 105 6 [.ref a, .int i1, .int i2, r3, u4] [s0] μ = (if jun s0 = none then (if jrecv μ 6 (.ref a) = true then (jC d 101 [.ref a, .int i1, .int i2] μ).bind fun p1 => jR (d + 1) 105 29 [.ref a, .int i1, .int i2, r3, s0] (p1.1.toList ++ []) p1.2 else none) else (if jrecv μ 5 s0 = true then (jC d 82 [s0, r3, .ref a] μ).bind fun p2 => jR (d + 1) 105 20 [.ref a, .int i1, .int i2, r3, s0] (p2.1.toList ++ []) p2.2 else none)) :=
  (l_astore (show gPG 105 6 = some (.astore 4) by decide +kernel) (ls := [.ref a, .int i1, .int i2, r3, u4]) hs0 (show (4 : Nat) < 5 by decide) (show _ = ([.ref a, .int i1, .int i2, r3, s0] : List Value) from rfl)).trans <|
  (l_aload (show gPG 105 8 = some (.aload 4) by decide +kernel) rfl hs0).trans <|
  (l_ifnull (show gPG 105 10 = some (.ifnull 13) by decide +kernel) hs0 (t := 23) (by decide +kernel)).trans <| ite_cg (
  (l_aload_n (show gPG 105 23 = some (.aload_n 0) by decide +kernel) rfl jr_ref).trans <|
  (l_iload_n (show gPG 105 24 = some (.iload_n 1) by decide +kernel) rfl).trans <|
  (l_iload_n (show gPG 105 25 = some (.iload_n 2) by decide +kernel) rfl).trans <|
  l_callV (u := 1) (v := .ref a) (as := [.int i1, .int i2]) (show gPG 105 26 = some (jinvI 1 75) by decide +kernel) (by decide) (cc := 101) (na := 3) (kd := 6) (q4 := 0) (z := 10) (rest := []) (by decide +kernel) (by decide +kernel)  rfl (show (3 : Nat) ≤ 3 by decide) rfl cs0 (by decide +kernel) (cai (cai (cav jr_ref ca0)))) (
  (l_aload (show gPG 105 13 = some (.aload 4) by decide +kernel) rfl hs0).trans <|
  (l_aload_n (show gPG 105 15 = some (.aload_n 3) by decide +kernel) rfl h3).trans <|
  (l_aload_n (show gPG 105 16 = some (.aload_n 0) by decide +kernel) rfl jr_ref).trans <|
  l_callV (u := 1) (v := s0) (as := [r3, .ref a]) (show gPG 105 17 = some (jinvI 1 103) by decide +kernel) (by decide) (cc := 82) (na := 3) (kd := 5) (q4 := 0) (z := 11) (rest := []) (by decide +kernel) (by decide +kernel)  rfl (show (3 : Nat) ≤ 3 by decide) rfl cs0 (by decide +kernel) (cav jr_ref (cav h3 (cav hs0 ca0))))
theorem b105_20 (d : Nat) (μ : jM) (u0 : Value) (u1 : Value) (u2 : Value) (u3 : Value) (u4 : Value) : jR d 105 20 [u0, u1, u2, u3, u4] [] μ = jR d 105 44 [u0, u1, u2, u3, u4] [] μ :=
  l_goto (show gPG 105 20 = some (.goto 24) by decide +kernel) (t := 44) (by decide +kernel)
theorem b105_29 (d : Nat) (μ : jM) (a : Nat) (i1 : Int32) (i2 : Int32) (r3 : Value) (u4 : Value) (s0 : Int32) (h3 : jisref r3 = true) : jR (d + 1) 105 29 [.ref a, .int i1, .int i2, r3, u4] [.int s0] μ = (if s0 = 1 then (if jrecv μ 6 (.ref a) = true then (jC d 102 [.ref a, .int i1, .int i2] μ).bind fun p1 => jR (d + 1) 105 40 [.ref a, .int i1, .int i2, r3, u4] (p1.1.toList ++ [r3]) p1.2 else none) else jR (d + 1) 105 44 [.ref a, .int i1, .int i2, r3, u4] [] μ) :=
  (l_iconst (show gPG 105 29 = some (.iconst 1) by decide +kernel) (c := 1) (by decide +kernel)).trans <|
  (l_cmp (show gPG 105 30 = some (.if_icmp .ne 14) by decide +kernel) (t := 44) (by decide +kernel)).trans <| jm_ne.trans <| ite_cg (
  (l_aload_n (show gPG 105 33 = some (.aload_n 3) by decide +kernel) rfl h3).trans <|
  (l_aload_n (show gPG 105 34 = some (.aload_n 0) by decide +kernel) rfl jr_ref).trans <|
  (l_iload_n (show gPG 105 35 = some (.iload_n 1) by decide +kernel) rfl).trans <|
  (l_iload_n (show gPG 105 36 = some (.iload_n 2) by decide +kernel) rfl).trans <|
  l_callV (u := 1) (v := .ref a) (as := [.int i1, .int i2]) (show gPG 105 37 = some (jinvI 1 78) by decide +kernel) (by decide) (cc := 102) (na := 3) (kd := 6) (q4 := 0) (z := 10) (rest := [r3]) (by decide +kernel) (by decide +kernel)  rfl (show (3 : Nat) ≤ 4 by decide) rfl (csv h3 cs0) (by decide +kernel) (cai (cai (cav jr_ref ca0)))) (
  rfl)
theorem b105_40 (d : Nat) (μ : jM) (u0 : Value) (u1 : Value) (u2 : Value) (u3 : Value) (u4 : Value) (s0 : Value) (s1 : Int32) (hs0 : jisref s0 = true) : jR (d + 1) 105 40 [u0, u1, u2, u3, u4] [.int s1, s0] μ = (if jrecv μ 1 s0 = true then (jC d 293 [s0, .int s1] μ).bind fun p1 => jR (d + 1) 105 43 [u0, u1, u2, u3, u4] (p1.1.toList ++ []) p1.2 else none) :=
  l_callV (u := 1) (v := s0) (as := [.int s1]) (show gPG 105 40 = some (jinvI 1 107) by decide +kernel) (by decide) (cc := 293) (na := 2) (kd := 1) (q4 := 0) (z := 10) (rest := []) (by decide +kernel) (by decide +kernel)  rfl (show (2 : Nat) ≤ 2 by decide) rfl cs0 (by decide +kernel) (cai (cav hs0 ca0))
theorem b105_43 (d : Nat) (μ : jM) (u0 : Value) (u1 : Value) (u2 : Value) (u3 : Value) (u4 : Value) (s0 : Value) (hs0 : jisref s0 = true) : jR d 105 43 [u0, u1, u2, u3, u4] [s0] μ = jR d 105 44 [u0, u1, u2, u3, u4] [] μ :=
  l_pop (show gPG 105 43 = some (.pop) by decide +kernel) (jr_cat1 hs0)
theorem b105_44 (d : Nat) (μ : jM) (u0 : Value) (u1 : Value) (u2 : Value) (u3 : Value) (u4 : Value) : jR d 105 44 [u0, u1, u2, u3, u4] [] μ = some (none, μ) :=
  l_ret (show gPG 105 44 = some (.return_) by decide +kernel) (by decide +kernel)
-- Grid.isRowAlike
theorem b106_0 (d : Nat) (μ : jM) (a : Nat) (i1 : Int32) (r2 : Value) (i3 : Int32) (h2 : jisref r2 = true) : jR d 106 0 [.ref a, .int i1, r2, .int i3, .retAddr 0] [] μ = jR d 106 3 [.ref a, .int i1, r2, .int i3, .int 0] [] μ :=
  (l_iconst (show gPG 106 0 = some (.iconst 0) by decide +kernel) (c := 0) (by decide +kernel)).trans <|
  l_istore (show gPG 106 1 = some (.istore 4) by decide +kernel) (ls := [.ref a, .int i1, r2, .int i3, .retAddr 0]) (show (4 : Nat) < 5 by decide) (show _ = ([.ref a, .int i1, r2, .int i3, .int 0] : List Value) from rfl)
theorem b106_3 (d : Nat) (μ : jM) (a : Nat) (i1 : Int32) (r2 : Value) (i3 : Int32) (i4 : Int32) (h2 : jisref r2 = true) : jR (d + 1) 106 3 [.ref a, .int i1, r2, .int i3, .int i4] [] μ = (if i4 < 3 then (if jrecv μ 6 (.ref a) = true then (jC d 107 [.ref a, .int i1, .int i4, r2, .int i3] μ).bind fun p1 => jR (d + 1) 106 18 [.ref a, .int i1, r2, .int i3, .int i4] (p1.1.toList ++ []) p1.2 else none) else some (some (.int 1), μ)) :=
  (l_iload (show gPG 106 3 = some (.iload 4) by decide +kernel) rfl).trans <|
  (l_iconst (show gPG 106 5 = some (.iconst 3) by decide +kernel) (c := 3) (by decide +kernel)).trans <|
  (l_cmp (show gPG 106 6 = some (.if_icmp .ge 40) by decide +kernel) (t := 46) (by decide +kernel)).trans <| jm_ge.trans <| ite_cg (
  (l_aload_n (show gPG 106 9 = some (.aload_n 0) by decide +kernel) rfl jr_ref).trans <|
  (l_iload_n (show gPG 106 10 = some (.iload_n 1) by decide +kernel) rfl).trans <|
  (l_iload (show gPG 106 11 = some (.iload 4) by decide +kernel) rfl).trans <|
  (l_aload_n (show gPG 106 13 = some (.aload_n 2) by decide +kernel) rfl h2).trans <|
  (l_iload_n (show gPG 106 14 = some (.iload_n 3) by decide +kernel) rfl).trans <|
  l_callV (u := 1) (v := .ref a) (as := [.int i1, .int i4, r2, .int i3]) (show gPG 106 15 = some (jinvI 1 100) by decide +kernel) (by decide) (cc := 107) (na := 5) (kd := 6) (q4 := 0) (z := 10) (rest := []) (by decide +kernel) (by decide +kernel)  rfl (show (5 : Nat) ≤ 5 by decide) rfl cs0 (by decide +kernel) (cai (cav h2 (cai (cai (cav jr_ref ca0)))))) (
  (l_iconst (show gPG 106 46 = some (.iconst 1) by decide +kernel) (c := 1) (by decide +kernel)).trans <|
  l_iretK (show gPG 106 47 = some (.ireturn) by decide +kernel) (by decide +kernel))
theorem b106_18 (d : Nat) (μ : jM) (a : Nat) (i1 : Int32) (r2 : Value) (i3 : Int32) (i4 : Int32) (s0 : Int32) (h2 : jisref r2 = true) : jR (d + 1) 106 18 [.ref a, .int i1, r2, .int i3, .int i4] [.int s0] μ = (if s0 = 0 then jR (d + 1) 106 38 [.ref a, .int i1, r2, .int i3, .int i4] [] μ else (if jrecv μ 6 (.ref a) = true then (jC d 99 [.ref a, .int i1, .int i4] μ).bind fun p1 => jR (d + 1) 106 28 [.ref a, .int i1, r2, .int i3, .int i4] (p1.1.toList ++ []) p1.2 else none)) :=
  (l_cmp0 (show gPG 106 18 = some (.ifCond .eq 20) by decide +kernel) (t := 38) (by decide +kernel)).trans <| jm_eq.trans <| ite_cg (
  rfl) (
  (l_aload_n (show gPG 106 21 = some (.aload_n 0) by decide +kernel) rfl jr_ref).trans <|
  (l_iload_n (show gPG 106 22 = some (.iload_n 1) by decide +kernel) rfl).trans <|
  (l_iload (show gPG 106 23 = some (.iload 4) by decide +kernel) rfl).trans <|
  l_callV (u := 1) (v := .ref a) (as := [.int i1, .int i4]) (show gPG 106 25 = some (jinvI 1 42) by decide +kernel) (by decide) (cc := 99) (na := 3) (kd := 6) (q4 := 0) (z := 10) (rest := []) (by decide +kernel) (by decide +kernel)  rfl (show (3 : Nat) ≤ 3 by decide) rfl cs0 (by decide +kernel) (cai (cai (cav jr_ref ca0))))
theorem b106_28 (d : Nat) (μ : jM) (a : Nat) (i1 : Int32) (r2 : Value) (i3 : Int32) (i4 : Int32) (s0 : Int32) (h2 : jisref r2 = true) : jR (d + 1) 106 28 [.ref a, .int i1, r2, .int i3, .int i4] [.int s0] μ = (if jrecv μ 6 r2 = true then (jC d 99 [r2, .int i3, .int i4] μ).bind fun p1 => jR (d + 1) 106 35 [.ref a, .int i1, r2, .int i3, .int i4] (p1.1.toList ++ [.int s0]) p1.2 else none) :=
  (l_aload_n (show gPG 106 28 = some (.aload_n 2) by decide +kernel) rfl h2).trans <|
  (l_iload_n (show gPG 106 29 = some (.iload_n 3) by decide +kernel) rfl).trans <|
  (l_iload (show gPG 106 30 = some (.iload 4) by decide +kernel) rfl).trans <|
  l_callV (u := 1) (v := r2) (as := [.int i3, .int i4]) (show gPG 106 32 = some (jinvI 1 42) by decide +kernel) (by decide) (cc := 99) (na := 3) (kd := 6) (q4 := 0) (z := 10) (rest := [.int s0]) (by decide +kernel) (by decide +kernel)  rfl (show (3 : Nat) ≤ 4 by decide) rfl (csi cs0) (by decide +kernel) (cai (cai (cav h2 ca0)))
theorem b106_35 (d : Nat) (μ : jM) (a : Nat) (i1 : Int32) (r2 : Value) (i3 : Int32) (i4 : Int32) (s0 : Int32) (s1 : Int32) (h2 : jisref r2 = true) : jR d 106 35 [.ref a, .int i1, r2, .int i3, .int i4] [.int s1, .int s0] μ = (if s0 = s1 then jR d 106 3 [.ref a, .int i1, r2, .int i3, .int (i4 + 1)] [] μ else jR d 106 38 [.ref a, .int i1, r2, .int i3, .int i4] [] μ) :=
  (l_cmp (show gPG 106 35 = some (.if_icmp .eq 5) by decide +kernel) (t := 40) (by decide +kernel)).trans <| jm_eq.trans <| ite_cg (
  (l_iinc (show gPG 106 40 = some (.iinc 4 1) by decide +kernel) (c := 1) (by decide +kernel) rfl (show _ = ([.ref a, .int i1, r2, .int i3, .int (i4 + 1)] : List Value) from rfl)).trans <|
  l_goto (show gPG 106 43 = some (.goto (-40)) by decide +kernel) (t := 3) (by decide +kernel)) (
  rfl)
theorem b106_38 (d : Nat) (μ : jM) (u0 : Value) (u1 : Value) (u2 : Value) (u3 : Value) (u4 : Value) : jR d 106 38 [u0, u1, u2, u3, u4] [] μ = some (some (.int 0), μ) :=
  (l_iconst (show gPG 106 38 = some (.iconst 0) by decide +kernel) (c := 0) (by decide +kernel)).trans <|
  l_iretK (show gPG 106 39 = some (.ireturn) by decide +kernel) (by decide +kernel)
-- Grid.isAlike
theorem b107_0 (d : Nat) (μ : jM) (a : Nat) (i1 : Int32) (i2 : Int32) (r3 : Value) (i4 : Int32) (h3 : jisref r3 = true) : jR (d + 1) 107 0 [.ref a, .int i1, .int i2, r3, .int i4, .retAddr 0, .retAddr 0, .retAddr 0] [] μ = (if jrecv μ 6 (.ref a) = true then (jC d 101 [.ref a, .int i1, .int i2] μ).bind fun p1 => jR (d + 1) 107 6 [.ref a, .int i1, .int i2, r3, .int i4, .retAddr 0, .retAddr 0, .retAddr 0] (p1.1.toList ++ []) p1.2 else none) :=
  (l_aload_n (show gPG 107 0 = some (.aload_n 0) by decide +kernel) rfl jr_ref).trans <|
  (l_iload_n (show gPG 107 1 = some (.iload_n 1) by decide +kernel) rfl).trans <|
  (l_iload_n (show gPG 107 2 = some (.iload_n 2) by decide +kernel) rfl).trans <|
  l_callV (u := 1) (v := .ref a) (as := [.int i1, .int i2]) (show gPG 107 3 = some (jinvI 1 75) by decide +kernel) (by decide) (cc := 101) (na := 3) (kd := 6) (q4 := 0) (z := 10) (rest := []) (by decide +kernel) (by decide +kernel)  rfl (show (3 : Nat) ≤ 3 by decide) rfl cs0 (by decide +kernel) (cai (cai (cav jr_ref ca0)))
theorem b107_6 (d : Nat) (μ : jM) (a : Nat) (i1 : Int32) (i2 : Int32) (r3 : Value) (i4 : Int32) (u5 : Value) (u6 : Value) (u7 : Value) (s0 : Int32) (h3 : jisref r3 = true) : jR (d + 1) 107 6 [.ref a, .int i1, .int i2, r3, .int i4, u5, u6, u7] [.int s0] μ = (if jrecv μ 6 r3 = true then (jC d 101 [r3, .int i4, .int i2] μ).bind fun p1 => jR (d + 1) 107 17 [.ref a, .int i1, .int i2, r3, .int i4, .int s0, u6, u7] (p1.1.toList ++ [.int s0]) p1.2 else none) :=
  (l_istore (show gPG 107 6 = some (.istore 5) by decide +kernel) (ls := [.ref a, .int i1, .int i2, r3, .int i4, u5, u6, u7]) (show (5 : Nat) < 8 by decide) (show _ = ([.ref a, .int i1, .int i2, r3, .int i4, .int s0, u6, u7] : List Value) from rfl)).trans <|
  (l_iload (show gPG 107 8 = some (.iload 5) by decide +kernel) rfl).trans <|
  (l_aload_n (show gPG 107 10 = some (.aload_n 3) by decide +kernel) rfl h3).trans <|
  (l_iload (show gPG 107 11 = some (.iload 4) by decide +kernel) rfl).trans <|
  (l_iload_n (show gPG 107 13 = some (.iload_n 2) by decide +kernel) rfl).trans <|
  l_callV (u := 1) (v := r3) (as := [.int i4, .int i2]) (show gPG 107 14 = some (jinvI 1 75) by decide +kernel) (by decide) (cc := 101) (na := 3) (kd := 6) (q4 := 0) (z := 10) (rest := [.int s0]) (by decide +kernel) (by decide +kernel)  rfl (show (3 : Nat) ≤ 4 by decide) rfl (csi cs0) (by decide +kernel) (cai (cai (cav h3 ca0)))
theorem b107_17 (d : Nat) (μ : jM) (a : Nat) (i1 : Int32) (i2 : Int32) (r3 : Value) (i4 : Int32) (i5 : Int32) (u6 : Value) (u7 : Value) (s0 : Int32) (s1 : Int32) (h3 : jisref r3 = true) : jR (d + 1) 107 17 [.ref a, .int i1, .int i2, r3, .int i4, .int i5, u6, u7] [.int s1, .int s0] μ = (if s0 = s1 then (if i5 = 2 then (if jrecv μ 6 (.ref a) = true then (jC d 103 [.ref a, .int i1, .int i2] μ).bind fun p1 => jR (d + 1) 107 56 [.ref a, .int i1, .int i2, r3, .int i4, .int i5, u6, u7] (p1.1.toList ++ []) p1.2 else none) else (if jrecv μ 6 (.ref a) = true then (jC d 102 [.ref a, .int i1, .int i2] μ).bind fun p2 => jR (d + 1) 107 34 [.ref a, .int i1, .int i2, r3, .int i4, .int i5, u6, u7] (p2.1.toList ++ []) p2.2 else none)) else some (some (.int 0), μ)) :=
  (l_cmp (show gPG 107 17 = some (.if_icmp .eq 5) by decide +kernel) (t := 22) (by decide +kernel)).trans <| jm_eq.trans <| ite_cg (
  (l_iload (show gPG 107 22 = some (.iload 5) by decide +kernel) rfl).trans <|
  (l_iconst (show gPG 107 24 = some (.iconst 2) by decide +kernel) (c := 2) (by decide +kernel)).trans <|
  (l_cmp (show gPG 107 25 = some (.if_icmp .eq 25) by decide +kernel) (t := 50) (by decide +kernel)).trans <| jm_eq.trans <| ite_cg (
  (l_aload_n (show gPG 107 50 = some (.aload_n 0) by decide +kernel) rfl jr_ref).trans <|
  (l_iload_n (show gPG 107 51 = some (.iload_n 1) by decide +kernel) rfl).trans <|
  (l_iload_n (show gPG 107 52 = some (.iload_n 2) by decide +kernel) rfl).trans <|
  l_callV (u := 1) (v := .ref a) (as := [.int i1, .int i2]) (show gPG 107 53 = some (jinvI 1 81) by decide +kernel) (by decide) (cc := 103) (na := 3) (kd := 6) (q4 := 0) (z := 10) (rest := []) (by decide +kernel) (by decide +kernel)  rfl (show (3 : Nat) ≤ 3 by decide) rfl cs0 (by decide +kernel) (cai (cai (cav jr_ref ca0)))) (
  (l_aload_n (show gPG 107 28 = some (.aload_n 0) by decide +kernel) rfl jr_ref).trans <|
  (l_iload_n (show gPG 107 29 = some (.iload_n 1) by decide +kernel) rfl).trans <|
  (l_iload_n (show gPG 107 30 = some (.iload_n 2) by decide +kernel) rfl).trans <|
  l_callV (u := 1) (v := .ref a) (as := [.int i1, .int i2]) (show gPG 107 31 = some (jinvI 1 78) by decide +kernel) (by decide) (cc := 102) (na := 3) (kd := 6) (q4 := 0) (z := 10) (rest := []) (by decide +kernel) (by decide +kernel)  rfl (show (3 : Nat) ≤ 3 by decide) rfl cs0 (by decide +kernel) (cai (cai (cav jr_ref ca0))))) (
  (l_iconst (show gPG 107 20 = some (.iconst 0) by decide +kernel) (c := 0) (by decide +kernel)).trans <|
  l_iretK (show gPG 107 21 = some (.ireturn) by decide +kernel) (by decide +kernel))
theorem b107_34 (d : Nat) (μ : jM) (u0 : Value) (u1 : Value) (i2 : Int32) (r3 : Value) (i4 : Int32) (u5 : Value) (u6 : Value) (u7 : Value) (s0 : Int32) (h3 : jisref r3 = true) : jR (d + 1) 107 34 [u0, u1, .int i2, r3, .int i4, u5, u6, u7] [.int s0] μ = (if jrecv μ 6 r3 = true then (jC d 102 [r3, .int i4, .int i2] μ).bind fun p1 => jR (d + 1) 107 41 [u0, u1, .int i2, r3, .int i4, u5, u6, u7] (p1.1.toList ++ [.int s0]) p1.2 else none) :=
  (l_aload_n (show gPG 107 34 = some (.aload_n 3) by decide +kernel) rfl h3).trans <|
  (l_iload (show gPG 107 35 = some (.iload 4) by decide +kernel) rfl).trans <|
  (l_iload_n (show gPG 107 37 = some (.iload_n 2) by decide +kernel) rfl).trans <|
  l_callV (u := 1) (v := r3) (as := [.int i4, .int i2]) (show gPG 107 38 = some (jinvI 1 78) by decide +kernel) (by decide) (cc := 102) (na := 3) (kd := 6) (q4 := 0) (z := 10) (rest := [.int s0]) (by decide +kernel) (by decide +kernel)  rfl (show (3 : Nat) ≤ 4 by decide) rfl (csi cs0) (by decide +kernel) (cai (cai (cav h3 ca0)))
theorem b107_41 (d : Nat) (μ : jM) (u0 : Value) (u1 : Value) (u2 : Value) (u3 : Value) (u4 : Value) (u5 : Value) (u6 : Value) (u7 : Value) (s0 : Int32) (s1 : Int32) : jR d 107 41 [u0, u1, u2, u3, u4, u5, u6, u7] [.int s1, .int s0] μ = (if s0 = s1 then jR d 107 49 [u0, u1, u2, u3, u4, u5, u6, u7] [.int 1] μ else jR d 107 49 [u0, u1, u2, u3, u4, u5, u6, u7] [.int 0] μ) :=
  (l_cmp (show gPG 107 41 = some (.if_icmp .ne 7) by decide +kernel) (t := 48) (by decide +kernel)).trans <| jm_ne.trans <| ite_cg (
  (l_iconst (show gPG 107 44 = some (.iconst 1) by decide +kernel) (c := 1) (by decide +kernel)).trans <|
  l_goto (show gPG 107 45 = some (.goto 4) by decide +kernel) (t := 49) (by decide +kernel)) (
  l_iconst (show gPG 107 48 = some (.iconst 0) by decide +kernel) (c := 0) (by decide +kernel))
theorem b107_49 (d : Nat) (μ : jM) (u0 : Value) (u1 : Value) (u2 : Value) (u3 : Value) (u4 : Value) (u5 : Value) (u6 : Value) (u7 : Value) (s0 : Int32) : jR d 107 49 [u0, u1, u2, u3, u4, u5, u6, u7] [.int s0] μ = (if jrf 4 s0 = true then some (some (.int s0), μ) else none) :=
  l_iret (show gPG 107 49 = some (.ireturn) by decide +kernel) (rc := 4) (by decide +kernel)
theorem b107_56 (d : Nat) (μ : jM) (u0 : Value) (u1 : Value) (i2 : Int32) (r3 : Value) (i4 : Int32) (u5 : Value) (u6 : Value) (u7 : Value) (s0 : Value) (h3 : jisref r3 = true) (hs0 : jisref s0 = true) : jR (d + 1) 107 56 [u0, u1, .int i2, r3, .int i4, u5, u6, u7] [s0] μ = (if jrecv μ 6 r3 = true then (jC d 103 [r3, .int i4, .int i2] μ).bind fun p1 => jR (d + 1) 107 65 [u0, u1, .int i2, r3, .int i4, u5, s0, u7] (p1.1.toList ++ []) p1.2 else none) :=
  (l_astore (show gPG 107 56 = some (.astore 6) by decide +kernel) (ls := [u0, u1, .int i2, r3, .int i4, u5, u6, u7]) hs0 (show (6 : Nat) < 8 by decide) (show _ = ([u0, u1, .int i2, r3, .int i4, u5, s0, u7] : List Value) from rfl)).trans <|
  (l_aload_n (show gPG 107 58 = some (.aload_n 3) by decide +kernel) rfl h3).trans <|
  (l_iload (show gPG 107 59 = some (.iload 4) by decide +kernel) rfl).trans <|
  (l_iload_n (show gPG 107 61 = some (.iload_n 2) by decide +kernel) rfl).trans <|
  l_callV (u := 1) (v := r3) (as := [.int i4, .int i2]) (show gPG 107 62 = some (jinvI 1 81) by decide +kernel) (by decide) (cc := 103) (na := 3) (kd := 6) (q4 := 0) (z := 10) (rest := []) (by decide +kernel) (by decide +kernel)  rfl (show (3 : Nat) ≤ 3 by decide) rfl cs0 (by decide +kernel) (cai (cai (cav h3 ca0)))
theorem b107_65 (d : Nat) (μ : jM) (u0 : Value) (u1 : Value) (u2 : Value) (u3 : Value) (u4 : Value) (u5 : Value) (r6 : Value) (u7 : Value) (s0 : Value) (h6 : jisref r6 = true) (hs0 : jisref s0 = true) : jR (d + 1) 107 65 [u0, u1, u2, u3, u4, u5, r6, u7] [s0] μ = (if jun r6 = none then jR (d + 1) 107 91 [u0, u1, u2, u3, u4, u5, r6, s0] [] μ else (if jun s0 = none then jR (d + 1) 107 91 [u0, u1, u2, u3, u4, u5, r6, s0] [] μ else (if jrecv μ 5 r6 = true then (jC d 85 [r6, s0] μ).bind fun p1 => jR (d + 1) 107 84 [u0, u1, u2, u3, u4, u5, r6, s0] (p1.1.toList ++ []) p1.2 else none))) :=
  (l_astore (show gPG 107 65 = some (.astore 7) by decide +kernel) (ls := [u0, u1, u2, u3, u4, u5, r6, u7]) hs0 (show (7 : Nat) < 8 by decide) (show _ = ([u0, u1, u2, u3, u4, u5, r6, s0] : List Value) from rfl)).trans <|
  (l_aload (show gPG 107 67 = some (.aload 6) by decide +kernel) rfl h6).trans <|
  (l_ifnull (show gPG 107 69 = some (.ifnull 22) by decide +kernel) h6 (t := 91) (by decide +kernel)).trans <| ite_cg (
  rfl) (
  (l_aload (show gPG 107 72 = some (.aload 7) by decide +kernel) rfl hs0).trans <|
  (l_ifnull (show gPG 107 74 = some (.ifnull 17) by decide +kernel) hs0 (t := 91) (by decide +kernel)).trans <| ite_cg (
  rfl) (
  (l_aload (show gPG 107 77 = some (.aload 6) by decide +kernel) rfl h6).trans <|
  (l_aload (show gPG 107 79 = some (.aload 7) by decide +kernel) rfl hs0).trans <|
  l_callV (u := 1) (v := r6) (as := [s0]) (show gPG 107 81 = some (jinvI 1 96) by decide +kernel) (by decide) (cc := 85) (na := 2) (kd := 5) (q4 := 0) (z := 11) (rest := []) (by decide +kernel) (by decide +kernel)  rfl (show (2 : Nat) ≤ 2 by decide) rfl cs0 (by decide +kernel) (cav hs0 (cav h6 ca0))))
theorem b107_84 (d : Nat) (μ : jM) (u0 : Value) (u1 : Value) (u2 : Value) (u3 : Value) (u4 : Value) (u5 : Value) (u6 : Value) (u7 : Value) (s0 : Int32) : jR d 107 84 [u0, u1, u2, u3, u4, u5, u6, u7] [.int s0] μ = (if s0 = 0 then jR d 107 91 [u0, u1, u2, u3, u4, u5, u6, u7] [] μ else jR d 107 92 [u0, u1, u2, u3, u4, u5, u6, u7] [.int 1] μ) :=
  (l_cmp0 (show gPG 107 84 = some (.ifCond .eq 7) by decide +kernel) (t := 91) (by decide +kernel)).trans <| jm_eq.trans <| ite_cg (
  rfl) (
  (l_iconst (show gPG 107 87 = some (.iconst 1) by decide +kernel) (c := 1) (by decide +kernel)).trans <|
  l_goto (show gPG 107 88 = some (.goto 4) by decide +kernel) (t := 92) (by decide +kernel))
theorem b107_91 (d : Nat) (μ : jM) (u0 : Value) (u1 : Value) (u2 : Value) (u3 : Value) (u4 : Value) (u5 : Value) (u6 : Value) (u7 : Value) : jR d 107 91 [u0, u1, u2, u3, u4, u5, u6, u7] [] μ = jR d 107 92 [u0, u1, u2, u3, u4, u5, u6, u7] [.int 0] μ :=
  l_iconst (show gPG 107 91 = some (.iconst 0) by decide +kernel) (c := 0) (by decide +kernel)
theorem b107_92 (d : Nat) (μ : jM) (u0 : Value) (u1 : Value) (u2 : Value) (u3 : Value) (u4 : Value) (u5 : Value) (u6 : Value) (u7 : Value) (s0 : Int32) : jR d 107 92 [u0, u1, u2, u3, u4, u5, u6, u7] [.int s0] μ = (if jrf 4 s0 = true then some (some (.int s0), μ) else none) :=
  l_iret (show gPG 107 92 = some (.ireturn) by decide +kernel) (rc := 4) (by decide +kernel)
-- Grid.rowAsIn
theorem b108_0 (d : Nat) (μ : jM) (a : Nat) (r1 : Value) (i2 : Int32) (i3 : Int32) (h1 : jisref r1 = true) : jR d 108 0 [.ref a, r1, .int i2, .int i3, .retAddr 0] [] μ = jR d 108 3 [.ref a, r1, .int i2, .int i3, .int 0] [] μ :=
  (l_iconst (show gPG 108 0 = some (.iconst 0) by decide +kernel) (c := 0) (by decide +kernel)).trans <|
  l_istore (show gPG 108 1 = some (.istore 4) by decide +kernel) (ls := [.ref a, r1, .int i2, .int i3, .retAddr 0]) (show (4 : Nat) < 5 by decide) (show _ = ([.ref a, r1, .int i2, .int i3, .int 0] : List Value) from rfl)
theorem b108_3 (d : Nat) (μ : jM) (a : Nat) (r1 : Value) (i2 : Int32) (i3 : Int32) (i4 : Int32) (h1 : jisref r1 = true) : jR (d + 1) 108 3 [.ref a, r1, .int i2, .int i3, .int i4] [] μ = (if i4 < 3 then (if jrecv μ 6 (.ref a) = true then (jC d 109 [.ref a, r1, .int i2, .int i3, .int i4] μ).bind fun p1 => jR (d + 1) 108 18 [.ref a, r1, .int i2, .int i3, .int i4] (p1.1.toList ++ []) p1.2 else none) else some (none, μ)) :=
  (l_iload (show gPG 108 3 = some (.iload 4) by decide +kernel) rfl).trans <|
  (l_iconst (show gPG 108 5 = some (.iconst 3) by decide +kernel) (c := 3) (by decide +kernel)).trans <|
  (l_cmp (show gPG 108 6 = some (.if_icmp .ge 32) by decide +kernel) (t := 38) (by decide +kernel)).trans <| jm_ge.trans <| ite_cg (
  (l_aload_n (show gPG 108 9 = some (.aload_n 0) by decide +kernel) rfl jr_ref).trans <|
  (l_aload_n (show gPG 108 10 = some (.aload_n 1) by decide +kernel) rfl h1).trans <|
  (l_iload_n (show gPG 108 11 = some (.iload_n 2) by decide +kernel) rfl).trans <|
  (l_iload_n (show gPG 108 12 = some (.iload_n 3) by decide +kernel) rfl).trans <|
  (l_iload (show gPG 108 13 = some (.iload 4) by decide +kernel) rfl).trans <|
  l_callV (u := 1) (v := .ref a) (as := [r1, .int i2, .int i3, .int i4]) (show gPG 108 15 = some (jinvI 1 38) by decide +kernel) (by decide) (cc := 109) (na := 5) (kd := 6) (q4 := 0) (z := 10) (rest := []) (by decide +kernel) (by decide +kernel)  rfl (show (5 : Nat) ≤ 5 by decide) rfl cs0 (by decide +kernel) (cai (cai (cai (cav h1 (cav jr_ref ca0)))))) (
  l_ret (show gPG 108 38 = some (.return_) by decide +kernel) (by decide +kernel))
theorem b108_18 (d : Nat) (μ : jM) (a : Nat) (r1 : Value) (i2 : Int32) (i3 : Int32) (i4 : Int32) (h1 : jisref r1 = true) : jR (d + 1) 108 18 [.ref a, r1, .int i2, .int i3, .int i4] [] μ = (if jrecv μ 6 r1 = true then (jC d 99 [r1, .int i2, .int i4] μ).bind fun p1 => jR (d + 1) 108 29 [.ref a, r1, .int i2, .int i3, .int i4] (p1.1.toList ++ [.int i4, .int i3, .ref a]) p1.2 else none) :=
  (l_aload_n (show gPG 108 18 = some (.aload_n 0) by decide +kernel) rfl jr_ref).trans <|
  (l_iload_n (show gPG 108 19 = some (.iload_n 3) by decide +kernel) rfl).trans <|
  (l_iload (show gPG 108 20 = some (.iload 4) by decide +kernel) rfl).trans <|
  (l_aload_n (show gPG 108 22 = some (.aload_n 1) by decide +kernel) rfl h1).trans <|
  (l_iload_n (show gPG 108 23 = some (.iload_n 2) by decide +kernel) rfl).trans <|
  (l_iload (show gPG 108 24 = some (.iload 4) by decide +kernel) rfl).trans <|
  l_callV (u := 1) (v := r1) (as := [.int i2, .int i4]) (show gPG 108 26 = some (jinvI 1 42) by decide +kernel) (by decide) (cc := 99) (na := 3) (kd := 6) (q4 := 0) (z := 10) (rest := [.int i4, .int i3, .ref a]) (by decide +kernel) (by decide +kernel)  rfl (show (3 : Nat) ≤ 6 by decide) rfl (csi (csi (csv jr_ref cs0))) (by decide +kernel) (cai (cai (cav h1 ca0)))
theorem b108_29 (d : Nat) (μ : jM) (a : Nat) (r1 : Value) (i2 : Int32) (i3 : Int32) (i4 : Int32) (s0 : Value) (s1 : Int32) (s2 : Int32) (s3 : Int32) (h1 : jisref r1 = true) (hs0 : jisref s0 = true) : jR (d + 1) 108 29 [.ref a, r1, .int i2, .int i3, .int i4] [.int s3, .int s2, .int s1, s0] μ = (if jrecv μ 6 s0 = true then (jC d 94 [s0, .int s1, .int s2, .int s3] μ).bind fun p1 => jR (d + 1) 108 32 [.ref a, r1, .int i2, .int i3, .int i4] (p1.1.toList ++ []) p1.2 else none) :=
  l_callV (u := 1) (v := s0) (as := [.int s1, .int s2, .int s3]) (show gPG 108 29 = some (jinvI 1 45) by decide +kernel) (by decide) (cc := 94) (na := 4) (kd := 6) (q4 := 0) (z := 10) (rest := []) (by decide +kernel) (by decide +kernel)  rfl (show (4 : Nat) ≤ 4 by decide) rfl cs0 (by decide +kernel) (cai (cai (cai (cav hs0 ca0))))
theorem b108_32 (d : Nat) (μ : jM) (a : Nat) (r1 : Value) (i2 : Int32) (i3 : Int32) (i4 : Int32) (h1 : jisref r1 = true) : jR d 108 32 [.ref a, r1, .int i2, .int i3, .int i4] [] μ = jR d 108 3 [.ref a, r1, .int i2, .int i3, .int (i4 + 1)] [] μ :=
  (l_iinc (show gPG 108 32 = some (.iinc 4 1) by decide +kernel) (c := 1) (by decide +kernel) rfl (show _ = ([.ref a, r1, .int i2, .int i3, .int (i4 + 1)] : List Value) from rfl)).trans <|
  l_goto (show gPG 108 35 = some (.goto (-32)) by decide +kernel) (t := 3) (by decide +kernel)
-- Grid.contentAsIn
theorem b109_0 (d : Nat) (μ : jM) (a : Nat) (r1 : Value) (i2 : Int32) (i3 : Int32) (i4 : Int32) (h1 : jisref r1 = true) : jR (d + 1) 109 0 [.ref a, r1, .int i2, .int i3, .int i4, .retAddr 0, .retAddr 0, .retAddr 0] [] μ = (if jrecv μ 6 (.ref a) = true then (jC d 88 [.ref a, .int i3, .int i4] μ).bind fun p1 => jR (d + 1) 109 7 [.ref a, r1, .int i2, .int i3, .int i4, .retAddr 0, .retAddr 0, .retAddr 0] (p1.1.toList ++ []) p1.2 else none) :=
  (l_aload_n (show gPG 109 0 = some (.aload_n 0) by decide +kernel) rfl jr_ref).trans <|
  (l_iload_n (show gPG 109 1 = some (.iload_n 3) by decide +kernel) rfl).trans <|
  (l_iload (show gPG 109 2 = some (.iload 4) by decide +kernel) rfl).trans <|
  l_callV (u := 1) (v := .ref a) (as := [.int i3, .int i4]) (show gPG 109 4 = some (jinvI 1 34) by decide +kernel) (by decide) (cc := 88) (na := 3) (kd := 6) (q4 := 0) (z := 10) (rest := []) (by decide +kernel) (by decide +kernel)  rfl (show (3 : Nat) ≤ 3 by decide) rfl cs0 (by decide +kernel) (cai (cai (cav jr_ref ca0)))
theorem b109_7 (d : Nat) (μ : jM) (a : Nat) (r1 : Value) (i2 : Int32) (u3 : Value) (i4 : Int32) (u5 : Value) (u6 : Value) (u7 : Value) (s0 : Int32) (h1 : jisref r1 = true) : jR (d + 1) 109 7 [.ref a, r1, .int i2, u3, .int i4, u5, u6, u7] [.int s0] μ = (if jrecv μ 6 r1 = true then (jC d 88 [r1, .int i2, .int i4] μ).bind fun p1 => jR (d + 1) 109 16 [.ref a, r1, .int i2, u3, .int i4, .int s0, u6, u7] (p1.1.toList ++ []) p1.2 else none) :=
  (l_istore (show gPG 109 7 = some (.istore 5) by decide +kernel) (ls := [.ref a, r1, .int i2, u3, .int i4, u5, u6, u7]) (show (5 : Nat) < 8 by decide) (show _ = ([.ref a, r1, .int i2, u3, .int i4, .int s0, u6, u7] : List Value) from rfl)).trans <|
  (l_aload_n (show gPG 109 9 = some (.aload_n 1) by decide +kernel) rfl h1).trans <|
  (l_iload_n (show gPG 109 10 = some (.iload_n 2) by decide +kernel) rfl).trans <|
  (l_iload (show gPG 109 11 = some (.iload 4) by decide +kernel) rfl).trans <|
  l_callV (u := 1) (v := r1) (as := [.int i2, .int i4]) (show gPG 109 13 = some (jinvI 1 34) by decide +kernel) (by decide) (cc := 88) (na := 3) (kd := 6) (q4 := 0) (z := 10) (rest := []) (by decide +kernel) (by decide +kernel)  rfl (show (3 : Nat) ≤ 3 by decide) rfl cs0 (by decide +kernel) (cai (cai (cav h1 ca0)))
theorem b109_16 (d : Nat) (μ : jM) (a : Nat) (r1 : Value) (u2 : Value) (u3 : Value) (u4 : Value) (i5 : Int32) (u6 : Value) (u7 : Value) (s0 : Int32) (h1 : jisref r1 = true) : jR d 109 16 [.ref a, r1, u2, u3, u4, .int i5, u6, u7] [.int s0] μ = (if i5 = (-1) then some (none, μ) else (if s0 = (-1) then jR d 109 36 [.ref a, r1, u2, u3, u4, .int i5, .int s0, u7] [.int 0] μ else jR d 109 36 [.ref a, r1, u2, u3, u4, .int i5, .int s0, u7] [.int 1] μ)) :=
  (l_istore (show gPG 109 16 = some (.istore 6) by decide +kernel) (ls := [.ref a, r1, u2, u3, u4, .int i5, u6, u7]) (show (6 : Nat) < 8 by decide) (show _ = ([.ref a, r1, u2, u3, u4, .int i5, .int s0, u7] : List Value) from rfl)).trans <|
  (l_iload (show gPG 109 18 = some (.iload 5) by decide +kernel) rfl).trans <|
  (l_iconst (show gPG 109 20 = some (.iconst (-1)) by decide +kernel) (c := (-1)) (by decide +kernel)).trans <|
  (l_cmp (show gPG 109 21 = some (.if_icmp .ne 4) by decide +kernel) (t := 25) (by decide +kernel)).trans <| jm_ne.trans <| ite_cg (
  l_ret (show gPG 109 24 = some (.return_) by decide +kernel) (by decide +kernel)) (
  (l_iload (show gPG 109 25 = some (.iload 6) by decide +kernel) rfl).trans <|
  (l_iconst (show gPG 109 27 = some (.iconst (-1)) by decide +kernel) (c := (-1)) (by decide +kernel)).trans <|
  (l_cmp (show gPG 109 28 = some (.if_icmp .eq 7) by decide +kernel) (t := 35) (by decide +kernel)).trans <| jm_eq.trans <| ite_cg (
  l_iconst (show gPG 109 35 = some (.iconst 0) by decide +kernel) (c := 0) (by decide +kernel)) (
  (l_iconst (show gPG 109 31 = some (.iconst 1) by decide +kernel) (c := 1) (by decide +kernel)).trans <|
  l_goto (show gPG 109 32 = some (.goto 4) by decide +kernel) (t := 36) (by decide +kernel)))
theorem b109_36 (d : Nat) (μ : jM) (a : Nat) (r1 : Value) (u2 : Value) (u3 : Value) (u4 : Value) (i5 : Int32) (i6 : Int32) (u7 : Value) (s0 : Int32) (h1 : jisref r1 = true) : jR d 109 36 [.ref a, r1, u2, u3, u4, .int i5, .int i6, u7] [.int s0] μ = (jgR μ 6 2 (.ref a)).bind fun w1 => (if s0 = 0 then jR d 109 60 [.ref a, r1, u2, u3, u4, .int i5, .int i6, .int s0] [.int 0, .int i5, w1] μ else (jgR μ 6 2 r1).bind fun w2 => (jaI μ w2 i6).bind fun x3 => jR d 109 60 [.ref a, r1, u2, u3, u4, .int i5, .int i6, .int s0] [.int x3, .int i5, w1] μ) :=
  (l_istore (show gPG 109 36 = some (.istore 7) by decide +kernel) (ls := [.ref a, r1, u2, u3, u4, .int i5, .int i6, u7]) (show (7 : Nat) < 8 by decide) (show _ = ([.ref a, r1, u2, u3, u4, .int i5, .int i6, .int s0] : List Value) from rfl)).trans <|
  (l_aload_n (show gPG 109 38 = some (.aload_n 0) by decide +kernel) rfl jr_ref).trans <|
  (l_gR (show gPG 109 39 = some (.getfield 15) by decide +kernel) (kd := 6) (sl := 2) (tc := 1) (fin := 1) (z := 0) (by decide +kernel) (by decide +kernel) (by decide +kernel)).trans <| bd_cg fun w1 hw1 =>
  (l_iload (show gPG 109 42 = some (.iload 5) by decide +kernel) rfl).trans <|
  (l_iload (show gPG 109 44 = some (.iload 7) by decide +kernel) rfl).trans <|
  (l_cmp0 (show gPG 109 46 = some (.ifCond .eq 13) by decide +kernel) (t := 59) (by decide +kernel)).trans <| jm_eq.trans <| ite_cg (
  l_iconst (show gPG 109 59 = some (.iconst 0) by decide +kernel) (c := 0) (by decide +kernel)) (
  (l_aload_n (show gPG 109 49 = some (.aload_n 1) by decide +kernel) rfl h1).trans <|
  (l_gR (show gPG 109 50 = some (.getfield 15) by decide +kernel) (kd := 6) (sl := 2) (tc := 1) (fin := 1) (z := 0) (by decide +kernel) (by decide +kernel) (by decide +kernel)).trans <| bd_cg fun w2 hw2 =>
  (l_iload (show gPG 109 53 = some (.iload 6) by decide +kernel) rfl).trans <|
  (l_iald (show gPG 109 55 = some (.iaload) by decide +kernel) ).trans <| bd_cg fun x3 hx3 =>
  l_goto (show gPG 109 56 = some (.goto 4) by decide +kernel) (t := 60) (by decide +kernel))
theorem b109_60 (d : Nat) (μ : jM) (a : Nat) (r1 : Value) (u2 : Value) (u3 : Value) (u4 : Value) (i5 : Int32) (i6 : Int32) (i7 : Int32) (s0 : Value) (s1 : Int32) (s2 : Int32) (h1 : jisref r1 = true) (hs0 : jisref s0 = true) : jR d 109 60 [.ref a, r1, u2, u3, u4, .int i5, .int i6, .int i7] [.int s2, .int s1, s0] μ = (jsI μ s0 s1 s2).bind fun m1 => (jgR m1 6 3 (.ref a)).bind fun w2 => (if i7 = 0 then jR d 109 83 [.ref a, r1, u2, u3, u4, .int i5, .int i6, .int i7] [.int 0, .int i5, w2] m1 else (jgR m1 6 3 r1).bind fun w3 => (jaI m1 w3 i6).bind fun x4 => jR d 109 83 [.ref a, r1, u2, u3, u4, .int i5, .int i6, .int i7] [.int x4, .int i5, w2] m1) :=
  (l_iast (show gPG 109 60 = some (.iastore) by decide +kernel) ).trans <| bd_cg fun m1 hm1 =>
  (l_aload_n (show gPG 109 61 = some (.aload_n 0) by decide +kernel) rfl jr_ref).trans <|
  (l_gR (show gPG 109 62 = some (.getfield 18) by decide +kernel) (kd := 6) (sl := 3) (tc := 1) (fin := 1) (z := 0) (by decide +kernel) (by decide +kernel) (by decide +kernel)).trans <| bd_cg fun w2 hw2 =>
  (l_iload (show gPG 109 65 = some (.iload 5) by decide +kernel) rfl).trans <|
  (l_iload (show gPG 109 67 = some (.iload 7) by decide +kernel) rfl).trans <|
  (l_cmp0 (show gPG 109 69 = some (.ifCond .eq 13) by decide +kernel) (t := 82) (by decide +kernel)).trans <| jm_eq.trans <| ite_cg (
  l_iconst (show gPG 109 82 = some (.iconst 0) by decide +kernel) (c := 0) (by decide +kernel)) (
  (l_aload_n (show gPG 109 72 = some (.aload_n 1) by decide +kernel) rfl h1).trans <|
  (l_gR (show gPG 109 73 = some (.getfield 18) by decide +kernel) (kd := 6) (sl := 3) (tc := 1) (fin := 1) (z := 0) (by decide +kernel) (by decide +kernel) (by decide +kernel)).trans <| bd_cg fun w3 hw3 =>
  (l_iload (show gPG 109 76 = some (.iload 6) by decide +kernel) rfl).trans <|
  (l_iald (show gPG 109 78 = some (.iaload) by decide +kernel) ).trans <| bd_cg fun x4 hx4 =>
  l_goto (show gPG 109 79 = some (.goto 4) by decide +kernel) (t := 83) (by decide +kernel))
theorem b109_83 (d : Nat) (μ : jM) (a : Nat) (r1 : Value) (u2 : Value) (u3 : Value) (u4 : Value) (i5 : Int32) (i6 : Int32) (i7 : Int32) (s0 : Value) (s1 : Int32) (s2 : Int32) (h1 : jisref r1 = true) (hs0 : jisref s0 = true) : jR d 109 83 [.ref a, r1, u2, u3, u4, .int i5, .int i6, .int i7] [.int s2, .int s1, s0] μ = (jsI μ s0 s1 s2).bind fun m1 => (jgR m1 6 4 (.ref a)).bind fun w2 => (if i7 = 0 then jR d 109 106 [.ref a, r1, u2, u3, u4, .int i5, .int i6, .int i7] [.null, .int i5, w2] m1 else (jgR m1 6 4 r1).bind fun w3 => (jaR m1 w3 i6).bind fun w4 => jR d 109 106 [.ref a, r1, u2, u3, u4, .int i5, .int i6, .int i7] [w4, .int i5, w2] m1) :=
  (l_iast (show gPG 109 83 = some (.iastore) by decide +kernel) ).trans <| bd_cg fun m1 hm1 =>
  (l_aload_n (show gPG 109 84 = some (.aload_n 0) by decide +kernel) rfl jr_ref).trans <|
  (l_gR (show gPG 109 85 = some (.getfield 23) by decide +kernel) (kd := 6) (sl := 4) (tc := 1) (fin := 1) (z := 0) (by decide +kernel) (by decide +kernel) (by decide +kernel)).trans <| bd_cg fun w2 hw2 =>
  (l_iload (show gPG 109 88 = some (.iload 5) by decide +kernel) rfl).trans <|
  (l_iload (show gPG 109 90 = some (.iload 7) by decide +kernel) rfl).trans <|
  (l_cmp0 (show gPG 109 92 = some (.ifCond .eq 13) by decide +kernel) (t := 105) (by decide +kernel)).trans <| jm_eq.trans <| ite_cg (
  l_anull (show gPG 109 105 = some (.aconst_null) by decide +kernel) ) (
  (l_aload_n (show gPG 109 95 = some (.aload_n 1) by decide +kernel) rfl h1).trans <|
  (l_gR (show gPG 109 96 = some (.getfield 23) by decide +kernel) (kd := 6) (sl := 4) (tc := 1) (fin := 1) (z := 0) (by decide +kernel) (by decide +kernel) (by decide +kernel)).trans <| bd_cg fun w3 hw3 =>
  (l_iload (show gPG 109 99 = some (.iload 6) by decide +kernel) rfl).trans <|
  (l_aald (show gPG 109 101 = some (.aaload) by decide +kernel) ).trans <| bd_cg fun w4 hw4 =>
  l_goto (show gPG 109 102 = some (.goto 4) by decide +kernel) (t := 106) (by decide +kernel))
theorem b109_106 (d : Nat) (μ : jM) (u0 : Value) (u1 : Value) (u2 : Value) (u3 : Value) (u4 : Value) (u5 : Value) (u6 : Value) (u7 : Value) (s0 : Value) (s1 : Int32) (s2 : Value) (hs0 : jisref s0 = true) (hs2 : jisref s2 = true) : jR d 109 106 [u0, u1, u2, u3, u4, u5, u6, u7] [s2, .int s1, s0] μ = (jsR μ s0 s1 s2).bind fun m1 => some (none, m1) :=
  (l_aast (show gPG 109 106 = some (.aastore) by decide +kernel) ).trans <| bd_cg fun m1 hm1 =>
  l_ret (show gPG 109 107 = some (.return_) by decide +kernel) (by decide +kernel)
-- Grid.unlikeCells
theorem b110_0 (d : Nat) (μ : jM) (a : Nat) (r1 : Value) (h1 : jisref r1 = true) : jR d 110 0 [.ref a, r1, .retAddr 0, .retAddr 0, .retAddr 0] [] μ = jR d 110 4 [.ref a, r1, .int 0, .int 0, .retAddr 0] [] μ :=
  (l_iconst (show gPG 110 0 = some (.iconst 0) by decide +kernel) (c := 0) (by decide +kernel)).trans <|
  (l_istore_n (show gPG 110 1 = some (.istore_n 2) by decide +kernel) (ls := [.ref a, r1, .retAddr 0, .retAddr 0, .retAddr 0]) (show (2 : Nat) < 5 by decide) (show _ = ([.ref a, r1, .int 0, .retAddr 0, .retAddr 0] : List Value) from rfl)).trans <|
  (l_iconst (show gPG 110 2 = some (.iconst 0) by decide +kernel) (c := 0) (by decide +kernel)).trans <|
  l_istore_n (show gPG 110 3 = some (.istore_n 3) by decide +kernel) (ls := [.ref a, r1, .int 0, .retAddr 0, .retAddr 0]) (show (3 : Nat) < 5 by decide) (show _ = ([.ref a, r1, .int 0, .int 0, .retAddr 0] : List Value) from rfl)
theorem b110_4 (d : Nat) (μ : jM) (a : Nat) (r1 : Value) (i2 : Int32) (i3 : Int32) (u4 : Value) (h1 : jisref r1 = true) : jR (d + 1) 110 4 [.ref a, r1, .int i2, .int i3, u4] [] μ = (jgI μ 6 0 (.ref a)).bind fun x1 => (if i3 < (x1 * 3) then (if jrecv μ 6 (.ref a) = true then (jC d 89 [.ref a, .int (i3 / 3)] μ).bind fun p2 => jR (d + 1) 110 33 [.ref a, r1, .int i2, .int i3, .int (i3 / 3)] (p2.1.toList ++ [r1, r1, .int (i3 - i3 / 3 * 3), .int (i3 / 3), .ref a]) p2.2 else none) else some (some (.int i2), μ)) :=
  (l_iload_n (show gPG 110 4 = some (.iload_n 3) by decide +kernel) rfl).trans <|
  (l_aload_n (show gPG 110 5 = some (.aload_n 0) by decide +kernel) rfl jr_ref).trans <|
  (l_gI (show gPG 110 6 = some (.getfield 30) by decide +kernel) (kd := 6) (sl := 0) (tc := 0) (fin := 0) (z := 0) (by decide +kernel) (by decide +kernel) (by decide +kernel)).trans <| bd_cg fun x1 hx1 =>
  (l_iconst (show gPG 110 9 = some (.iconst 3) by decide +kernel) (c := 3) (by decide +kernel)).trans <|
  (l_imul (show gPG 110 10 = some (.imul) by decide +kernel) ).trans <|
  (l_cmp (show gPG 110 11 = some (.if_icmp .ge 40) by decide +kernel) (t := 51) (by decide +kernel)).trans <| jm_ge.trans <| ite_cg (
  (l_iload_n (show gPG 110 14 = some (.iload_n 3) by decide +kernel) rfl).trans <|
  (l_iconst (show gPG 110 15 = some (.iconst 3) by decide +kernel) (c := 3) (by decide +kernel)).trans <|
  (l_idivK (show gPG 110 16 = some (.idiv) by decide +kernel) (by decide +kernel)).trans <|
  (l_istore (show gPG 110 17 = some (.istore 4) by decide +kernel) (ls := [.ref a, r1, .int i2, .int i3, u4]) (show (4 : Nat) < 5 by decide) (show _ = ([.ref a, r1, .int i2, .int i3, .int (i3 / 3)] : List Value) from rfl)).trans <|
  (l_aload_n (show gPG 110 19 = some (.aload_n 0) by decide +kernel) rfl jr_ref).trans <|
  (l_iload (show gPG 110 20 = some (.iload 4) by decide +kernel) rfl).trans <|
  (l_iload_n (show gPG 110 22 = some (.iload_n 3) by decide +kernel) rfl).trans <|
  (l_iconst (show gPG 110 23 = some (.iconst 3) by decide +kernel) (c := 3) (by decide +kernel)).trans <|
  (l_iremK (show gPG 110 24 = some (.irem) by decide +kernel) (by decide +kernel)).trans <|
  (l_aload_n (show gPG 110 25 = some (.aload_n 1) by decide +kernel) rfl h1).trans <|
  (l_aload_n (show gPG 110 26 = some (.aload_n 1) by decide +kernel) rfl h1).trans <|
  (l_aload_n (show gPG 110 27 = some (.aload_n 0) by decide +kernel) rfl jr_ref).trans <|
  (l_iload (show gPG 110 28 = some (.iload 4) by decide +kernel) rfl).trans <|
  l_callV (u := 1) (v := .ref a) (as := [.int (i3 / 3)]) (show gPG 110 30 = some (jinvI 1 93) by decide +kernel) (by decide) (cc := 89) (na := 2) (kd := 6) (q4 := 0) (z := 10) (rest := [r1, r1, .int (i3 - i3 / 3 * 3), .int (i3 / 3), .ref a]) (by decide +kernel) (by decide +kernel)  rfl (show (2 : Nat) ≤ 7 by decide) rfl (csv h1 (csv h1 (csi (csi (csv jr_ref cs0))))) (by decide +kernel) (cai (cav jr_ref ca0))) (
  (l_iload_n (show gPG 110 51 = some (.iload_n 2) by decide +kernel) rfl).trans <|
  l_iret1 (show gPG 110 52 = some (.ireturn) by decide +kernel) (by decide +kernel))
theorem b110_33 (d : Nat) (μ : jM) (a : Nat) (r1 : Value) (i2 : Int32) (i3 : Int32) (u4 : Value) (s0 : Value) (s1 : Int32) (s2 : Int32) (s3 : Value) (s4 : Value) (s5 : Int32) (h1 : jisref r1 = true) (hs0 : jisref s0 = true) (hs3 : jisref s3 = true) (hs4 : jisref s4 = true) : jR (d + 1) 110 33 [.ref a, r1, .int i2, .int i3, u4] [.int s5, s4, s3, .int s2, .int s1, s0] μ = (if jrecv μ 6 s4 = true then (jC d 92 [s4, .int s5] μ).bind fun p1 => jR (d + 1) 110 36 [.ref a, r1, .int i2, .int i3, u4] (p1.1.toList ++ [s3, .int s2, .int s1, s0]) p1.2 else none) :=
  l_callV (u := 1) (v := s4) (as := [.int s5]) (show gPG 110 33 = some (jinvI 1 89) by decide +kernel) (by decide) (cc := 92) (na := 2) (kd := 6) (q4 := 0) (z := 10) (rest := [s3, .int s2, .int s1, s0]) (by decide +kernel) (by decide +kernel)  rfl (show (2 : Nat) ≤ 6 by decide) rfl (csv hs3 (csi (csi (csv hs0 cs0)))) (by decide +kernel) (cai (cav hs4 ca0))
theorem b110_36 (d : Nat) (μ : jM) (a : Nat) (r1 : Value) (i2 : Int32) (i3 : Int32) (u4 : Value) (s0 : Value) (s1 : Int32) (s2 : Int32) (s3 : Value) (s4 : Int32) (h1 : jisref r1 = true) (hs0 : jisref s0 = true) (hs3 : jisref s3 = true) : jR (d + 1) 110 36 [.ref a, r1, .int i2, .int i3, u4] [.int s4, s3, .int s2, .int s1, s0] μ = (if jrecv μ 6 s0 = true then (jC d 107 [s0, .int s1, .int s2, s3, .int s4] μ).bind fun p1 => jR (d + 1) 110 39 [.ref a, r1, .int i2, .int i3, u4] (p1.1.toList ++ []) p1.2 else none) :=
  l_callV (u := 1) (v := s0) (as := [.int s1, .int s2, s3, .int s4]) (show gPG 110 36 = some (jinvI 1 100) by decide +kernel) (by decide) (cc := 107) (na := 5) (kd := 6) (q4 := 0) (z := 10) (rest := []) (by decide +kernel) (by decide +kernel)  rfl (show (5 : Nat) ≤ 5 by decide) rfl cs0 (by decide +kernel) (cai (cav hs3 (cai (cai (cav hs0 ca0)))))
theorem b110_39 (d : Nat) (μ : jM) (a : Nat) (r1 : Value) (i2 : Int32) (i3 : Int32) (u4 : Value) (s0 : Int32) (h1 : jisref r1 = true) : jR d 110 39 [.ref a, r1, .int i2, .int i3, u4] [.int s0] μ = (if s0 = 0 then jR d 110 45 [.ref a, r1, .int (i2 + 1), .int i3, u4] [] μ else jR d 110 45 [.ref a, r1, .int i2, .int i3, u4] [] μ) :=
  (l_cmp0 (show gPG 110 39 = some (.ifCond .ne 6) by decide +kernel) (t := 45) (by decide +kernel)).trans <| jm_ne.trans <| ite_cg (
  l_iinc (show gPG 110 42 = some (.iinc 2 1) by decide +kernel) (c := 1) (by decide +kernel) rfl (show _ = ([.ref a, r1, .int (i2 + 1), .int i3, u4] : List Value) from rfl)) (
  rfl)
theorem b110_45 (d : Nat) (μ : jM) (a : Nat) (r1 : Value) (i2 : Int32) (i3 : Int32) (u4 : Value) (h1 : jisref r1 = true) : jR d 110 45 [.ref a, r1, .int i2, .int i3, u4] [] μ = jR d 110 4 [.ref a, r1, .int i2, .int (i3 + 1), u4] [] μ :=
  (l_iinc (show gPG 110 45 = some (.iinc 3 1) by decide +kernel) (c := 1) (by decide +kernel) rfl (show _ = ([.ref a, r1, .int i2, .int (i3 + 1), u4] : List Value) from rfl)).trans <|
  l_goto (show gPG 110 48 = some (.goto (-44)) by decide +kernel) (t := 4) (by decide +kernel)
