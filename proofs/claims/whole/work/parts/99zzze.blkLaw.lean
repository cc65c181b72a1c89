/-! THE BLOCKS of the law, laid by program -/
-- Law.law
theorem b10_0 (d : Nat) (μ : jM) (r0 : Value) (h0 : jisref r0 = true) : jR (d + 1) 10 0 [r0, .retAddr 0, .retAddr 0, .retAddr 0] [] μ = (jC d 11 [(.ref (jsz μ))] ((jnew μ 12 0 15))).bind fun p1 => jR (d + 1) 10 7 [r0, .retAddr 0, .retAddr 0, .retAddr 0] (p1.1.toList ++ [(.ref (jsz μ))]) p1.2 :=
  (l_new (show gPG 10 0 = some (.new 7) by decide +kernel) (kd := 12) (wd := 15) (q3 := 0) (q4 := 0) (by decide +kernel)).trans <|
  (l_dup (show gPG 10 3 = some (.dup) by decide +kernel) (jr_cat1 jr_ref)).trans <|
  l_callS (u := 3) (as := [(.ref (jsz μ))]) (show gPG 10 4 = some (jinvI 3 9) by decide +kernel) (by decide) (cc := 11) (na := 1) (q4 := 0) (z := 14) (rest := [(.ref (jsz μ))]) (by decide +kernel) (by decide +kernel)  rfl (show (1 : Nat) ≤ 2 by decide) rfl (csv jr_ref cs0) (by decide +kernel) (cav jr_ref ca0) (fun _ => ⟨_, _, rfl⟩)
theorem b10_7 (d : Nat) (μ : jM) (r0 : Value) (u1 : Value) (u2 : Value) (u3 : Value) (s0 : Nat) (h0 : jisref r0 = true) : jR (d + 1) 10 7 [r0, u1, u2, u3] [(.ref s0)] μ = (jC d 160 [(.ref (jsz μ))] ((jnew μ 13 0 56))).bind fun p1 => jR (d + 1) 10 15 [r0, (.ref s0), u2, u3] (p1.1.toList ++ [(.ref (jsz μ))]) p1.2 :=
  (l_astore_n (show gPG 10 7 = some (.astore_n 1) by decide +kernel) (ls := [r0, u1, u2, u3]) jr_ref (show (1 : Nat) < 4 by decide) (show _ = ([r0, (.ref s0), u2, u3] : List Value) from rfl)).trans <|
  (l_new (show gPG 10 8 = some (.new 10) by decide +kernel) (kd := 13) (wd := 56) (q3 := 0) (q4 := 0) (by decide +kernel)).trans <|
  (l_dup (show gPG 10 11 = some (.dup) by decide +kernel) (jr_cat1 jr_ref)).trans <|
  l_callS (u := 3) (as := [(.ref (jsz μ))]) (show gPG 10 12 = some (jinvI 3 12) by decide +kernel) (by decide) (cc := 160) (na := 1) (q4 := 0) (z := 14) (rest := [(.ref (jsz μ))]) (by decide +kernel) (by decide +kernel)  rfl (show (1 : Nat) ≤ 2 by decide) rfl (csv jr_ref cs0) (by decide +kernel) (cav jr_ref ca0) (fun _ => ⟨_, _, rfl⟩)
theorem b10_15 (d : Nat) (μ : jM) (r0 : Value) (a1 : Nat) (u2 : Value) (u3 : Value) (s0 : Nat) (h0 : jisref r0 = true) : jR d 10 15 [r0, (.ref a1), u2, u3] [(.ref s0)] μ = jR d 10 18 [r0, (.ref a1), (.ref s0), .int 0] [] μ :=
  (l_astore_n (show gPG 10 15 = some (.astore_n 2) by decide +kernel) (ls := [r0, (.ref a1), u2, u3]) jr_ref (show (2 : Nat) < 4 by decide) (show _ = ([r0, (.ref a1), (.ref s0), u3] : List Value) from rfl)).trans <|
  (l_iconst (show gPG 10 16 = some (.iconst 0) by decide +kernel) (c := 0) (by decide +kernel)).trans <|
  l_istore_n (show gPG 10 17 = some (.istore_n 3) by decide +kernel) (ls := [r0, (.ref a1), (.ref s0), u3]) (show (3 : Nat) < 4 by decide) (show _ = ([r0, (.ref a1), (.ref s0), .int 0] : List Value) from rfl)
theorem sw10_33 (x : Int32) : ((jsw (.tableswitch 1221 0 28 #[131, 206, 249, 292, 325, 368, 421, 474, 507, 560, 604, 657, 700, 733, 746, 779, 812, 825, 838, 851, 884, 927, 980, 1023, 1036, 1049, 1072, 1115, 1158]) x).bind fun o => jtgt 33 o) = if x = 0 then some 164 else if x = 1 then some 239 else if x = 2 then some 282 else if x = 3 then some 325 else if x = 4 then some 358 else if x = 5 then some 401 else if x = 6 then some 454 else if x = 7 then some 507 else if x = 8 then some 540 else if x = 9 then some 593 else if x = 10 then some 637 else if x = 11 then some 690 else if x = 12 then some 733 else if x = 13 then some 766 else if x = 14 then some 779 else if x = 15 then some 812 else if x = 16 then some 845 else if x = 17 then some 858 else if x = 18 then some 871 else if x = 19 then some 884 else if x = 20 then some 917 else if x = 21 then some 960 else if x = 22 then some 1013 else if x = 23 then some 1056 else if x = 24 then some 1069 else if x = 25 then some 1082 else if x = 26 then some 1105 else if x = 27 then some 1148 else if x = 28 then some 1191 else some 1254 := by
  by_cases h0 : x = 0
  · subst h0; decide +kernel
  by_cases h1 : x = 1
  · subst h1; decide +kernel
  by_cases h2 : x = 2
  · subst h2; decide +kernel
  by_cases h3 : x = 3
  · subst h3; decide +kernel
  by_cases h4 : x = 4
  · subst h4; decide +kernel
  by_cases h5 : x = 5
  · subst h5; decide +kernel
  by_cases h6 : x = 6
  · subst h6; decide +kernel
  by_cases h7 : x = 7
  · subst h7; decide +kernel
  by_cases h8 : x = 8
  · subst h8; decide +kernel
  by_cases h9 : x = 9
  · subst h9; decide +kernel
  by_cases h10 : x = 10
  · subst h10; decide +kernel
  by_cases h11 : x = 11
  · subst h11; decide +kernel
  by_cases h12 : x = 12
  · subst h12; decide +kernel
  by_cases h13 : x = 13
  · subst h13; decide +kernel
  by_cases h14 : x = 14
  · subst h14; decide +kernel
  by_cases h15 : x = 15
  · subst h15; decide +kernel
  by_cases h16 : x = 16
  · subst h16; decide +kernel
  by_cases h17 : x = 17
  · subst h17; decide +kernel
  by_cases h18 : x = 18
  · subst h18; decide +kernel
  by_cases h19 : x = 19
  · subst h19; decide +kernel
  by_cases h20 : x = 20
  · subst h20; decide +kernel
  by_cases h21 : x = 21
  · subst h21; decide +kernel
  by_cases h22 : x = 22
  · subst h22; decide +kernel
  by_cases h23 : x = 23
  · subst h23; decide +kernel
  by_cases h24 : x = 24
  · subst h24; decide +kernel
  by_cases h25 : x = 25
  · subst h25; decide +kernel
  by_cases h26 : x = 26
  · subst h26; decide +kernel
  by_cases h27 : x = 27
  · subst h27; decide +kernel
  by_cases h28 : x = 28
  · subst h28; decide +kernel
  have g0 : x.toInt ≠ 0 := fun e => h0 (Int32.toInt_inj.mp (e.trans (by decide +kernel)))
  have g1 : x.toInt ≠ 1 := fun e => h1 (Int32.toInt_inj.mp (e.trans (by decide +kernel)))
  have g2 : x.toInt ≠ 2 := fun e => h2 (Int32.toInt_inj.mp (e.trans (by decide +kernel)))
  have g3 : x.toInt ≠ 3 := fun e => h3 (Int32.toInt_inj.mp (e.trans (by decide +kernel)))
  have g4 : x.toInt ≠ 4 := fun e => h4 (Int32.toInt_inj.mp (e.trans (by decide +kernel)))
  have g5 : x.toInt ≠ 5 := fun e => h5 (Int32.toInt_inj.mp (e.trans (by decide +kernel)))
  have g6 : x.toInt ≠ 6 := fun e => h6 (Int32.toInt_inj.mp (e.trans (by decide +kernel)))
  have g7 : x.toInt ≠ 7 := fun e => h7 (Int32.toInt_inj.mp (e.trans (by decide +kernel)))
  have g8 : x.toInt ≠ 8 := fun e => h8 (Int32.toInt_inj.mp (e.trans (by decide +kernel)))
  have g9 : x.toInt ≠ 9 := fun e => h9 (Int32.toInt_inj.mp (e.trans (by decide +kernel)))
  have g10 : x.toInt ≠ 10 := fun e => h10 (Int32.toInt_inj.mp (e.trans (by decide +kernel)))
  have g11 : x.toInt ≠ 11 := fun e => h11 (Int32.toInt_inj.mp (e.trans (by decide +kernel)))
  have g12 : x.toInt ≠ 12 := fun e => h12 (Int32.toInt_inj.mp (e.trans (by decide +kernel)))
  have g13 : x.toInt ≠ 13 := fun e => h13 (Int32.toInt_inj.mp (e.trans (by decide +kernel)))
  have g14 : x.toInt ≠ 14 := fun e => h14 (Int32.toInt_inj.mp (e.trans (by decide +kernel)))
  have g15 : x.toInt ≠ 15 := fun e => h15 (Int32.toInt_inj.mp (e.trans (by decide +kernel)))
  have g16 : x.toInt ≠ 16 := fun e => h16 (Int32.toInt_inj.mp (e.trans (by decide +kernel)))
  have g17 : x.toInt ≠ 17 := fun e => h17 (Int32.toInt_inj.mp (e.trans (by decide +kernel)))
  have g18 : x.toInt ≠ 18 := fun e => h18 (Int32.toInt_inj.mp (e.trans (by decide +kernel)))
  have g19 : x.toInt ≠ 19 := fun e => h19 (Int32.toInt_inj.mp (e.trans (by decide +kernel)))
  have g20 : x.toInt ≠ 20 := fun e => h20 (Int32.toInt_inj.mp (e.trans (by decide +kernel)))
  have g21 : x.toInt ≠ 21 := fun e => h21 (Int32.toInt_inj.mp (e.trans (by decide +kernel)))
  have g22 : x.toInt ≠ 22 := fun e => h22 (Int32.toInt_inj.mp (e.trans (by decide +kernel)))
  have g23 : x.toInt ≠ 23 := fun e => h23 (Int32.toInt_inj.mp (e.trans (by decide +kernel)))
  have g24 : x.toInt ≠ 24 := fun e => h24 (Int32.toInt_inj.mp (e.trans (by decide +kernel)))
  have g25 : x.toInt ≠ 25 := fun e => h25 (Int32.toInt_inj.mp (e.trans (by decide +kernel)))
  have g26 : x.toInt ≠ 26 := fun e => h26 (Int32.toInt_inj.mp (e.trans (by decide +kernel)))
  have g27 : x.toInt ≠ 27 := fun e => h27 (Int32.toInt_inj.mp (e.trans (by decide +kernel)))
  have g28 : x.toInt ≠ 28 := fun e => h28 (Int32.toInt_inj.mp (e.trans (by decide +kernel)))
  have e : jsw (.tableswitch 1221 0 28 #[131, 206, 249, 292, 325, 368, 421, 474, 507, 560, 604, 657, 700, 733, 746, 779, 812, 825, 838, 851, 884, 927, 980, 1023, 1036, 1049, 1072, 1115, 1158]) x = some 1221 := by
    show (if x.toInt < 0 ∨ 28 < x.toInt then _ else _) = _
    rw [if_pos (by omega)]
  rw [e]
  simp only [Option.bind_some, h0, if_false, h1, if_false, h2, if_false, h3, if_false, h4, if_false, h5, if_false, h6, if_false, h7, if_false, h8, if_false, h9, if_false, h10, if_false, h11, if_false, h12, if_false, h13, if_false, h14, if_false, h15, if_false, h16, if_false, h17, if_false, h18, if_false, h19, if_false, h20, if_false, h21, if_false, h22, if_false, h23, if_false, h24, if_false, h25, if_false, h26, if_false, h27, if_false, h28, if_false]
  decide +kernel
theorem b10_18 (d : Nat) (μ : jM) (r0 : Value) (a1 : Nat) (a2 : Nat) (i3 : Int32) (h0 : jisref r0 = true) : jR d 10 18 [r0, (.ref a1), (.ref a2), .int i3] [] μ = (jal μ r0).bind fun x1 => (if (x1 - 7) < i3 then some (some (.int 1), μ) else (jaI μ r0 i3).bind fun x2 => (if (x2 &&& 31) = 0 then jR d 10 164 [r0, (.ref a1), (.ref a2), .int i3] [] μ else (if (x2 &&& 31) = 1 then jR d 10 239 [r0, (.ref a1), (.ref a2), .int i3] [] μ else (if (x2 &&& 31) = 2 then jR d 10 282 [r0, (.ref a1), (.ref a2), .int i3] [] μ else (if (x2 &&& 31) = 3 then jR d 10 325 [r0, (.ref a1), (.ref a2), .int i3] [] μ else (if (x2 &&& 31) = 4 then jR d 10 358 [r0, (.ref a1), (.ref a2), .int i3] [] μ else (if (x2 &&& 31) = 5 then jR d 10 401 [r0, (.ref a1), (.ref a2), .int i3] [] μ else (if (x2 &&& 31) = 6 then jR d 10 454 [r0, (.ref a1), (.ref a2), .int i3] [] μ else (if (x2 &&& 31) = 7 then jR d 10 507 [r0, (.ref a1), (.ref a2), .int i3] [] μ else (if (x2 &&& 31) = 8 then jR d 10 540 [r0, (.ref a1), (.ref a2), .int i3] [] μ else (if (x2 &&& 31) = 9 then jR d 10 593 [r0, (.ref a1), (.ref a2), .int i3] [] μ else (if (x2 &&& 31) = 10 then jR d 10 637 [r0, (.ref a1), (.ref a2), .int i3] [] μ else (if (x2 &&& 31) = 11 then jR d 10 690 [r0, (.ref a1), (.ref a2), .int i3] [] μ else (if (x2 &&& 31) = 12 then jR d 10 733 [r0, (.ref a1), (.ref a2), .int i3] [] μ else (if (x2 &&& 31) = 13 then jR d 10 766 [r0, (.ref a1), (.ref a2), .int i3] [] μ else (if (x2 &&& 31) = 14 then jR d 10 779 [r0, (.ref a1), (.ref a2), .int i3] [] μ else (if (x2 &&& 31) = 15 then jR d 10 812 [r0, (.ref a1), (.ref a2), .int i3] [] μ else (if (x2 &&& 31) = 16 then jR d 10 845 [r0, (.ref a1), (.ref a2), .int i3] [] μ else (if (x2 &&& 31) = 17 then jR d 10 858 [r0, (.ref a1), (.ref a2), .int i3] [] μ else (if (x2 &&& 31) = 18 then jR d 10 871 [r0, (.ref a1), (.ref a2), .int i3] [] μ else (if (x2 &&& 31) = 19 then jR d 10 884 [r0, (.ref a1), (.ref a2), .int i3] [] μ else (if (x2 &&& 31) = 20 then jR d 10 917 [r0, (.ref a1), (.ref a2), .int i3] [] μ else (if (x2 &&& 31) = 21 then jR d 10 960 [r0, (.ref a1), (.ref a2), .int i3] [] μ else (if (x2 &&& 31) = 22 then jR d 10 1013 [r0, (.ref a1), (.ref a2), .int i3] [] μ else (if (x2 &&& 31) = 23 then jR d 10 1056 [r0, (.ref a1), (.ref a2), .int i3] [] μ else (if (x2 &&& 31) = 24 then jR d 10 1069 [r0, (.ref a1), (.ref a2), .int i3] [] μ else (if (x2 &&& 31) = 25 then jR d 10 1082 [r0, (.ref a1), (.ref a2), .int i3] [] μ else (if (x2 &&& 31) = 26 then jR d 10 1105 [r0, (.ref a1), (.ref a2), .int i3] [] μ else (if (x2 &&& 31) = 27 then jR d 10 1148 [r0, (.ref a1), (.ref a2), .int i3] [] μ else (if (x2 &&& 31) = 28 then jR d 10 1191 [r0, (.ref a1), (.ref a2), .int i3] [] μ else jR d 10 1254 [r0, (.ref a1), (.ref a2), .int i3] [] μ)))))))))))))))))))))))))))))) :=
  (l_iload_n (show gPG 10 18 = some (.iload_n 3) by decide +kernel) rfl).trans <|
  (l_aload_n (show gPG 10 19 = some (.aload_n 0) by decide +kernel) rfl h0).trans <|
  (l_alen (show gPG 10 20 = some (.arraylength) by decide +kernel) ).trans <| bd_cg fun x1 hx1 =>
  (l_bipush (show gPG 10 21 = some (.bipush 7) by decide +kernel) (c := 7) (by decide +kernel)).trans <|
  (l_isub (show gPG 10 23 = some (.isub) by decide +kernel) ).trans <|
  (l_cmp (show gPG 10 24 = some (.if_icmp .gt 1236) by decide +kernel) (t := 1260) (by decide +kernel)).trans <| jm_gt.trans <| ite_cg (
  (l_iconst (show gPG 10 1260 = some (.iconst 1) by decide +kernel) (c := 1) (by decide +kernel)).trans <|
  l_iretK (show gPG 10 1261 = some (.ireturn) by decide +kernel) (by decide +kernel)) (
  (l_aload_n (show gPG 10 27 = some (.aload_n 0) by decide +kernel) rfl h0).trans <|
  (l_iload_n (show gPG 10 28 = some (.iload_n 3) by decide +kernel) rfl).trans <|
  (l_iald (show gPG 10 29 = some (.iaload) by decide +kernel) ).trans <| bd_cg fun x2 hx2 =>
  (l_bipush (show gPG 10 30 = some (.bipush 31) by decide +kernel) (c := 31) (by decide +kernel)).trans <|
  (l_iand (show gPG 10 32 = some (.iand) by decide +kernel) ).trans <|
  (l_tsw (show gPG 10 33 = some (.tableswitch 1221 0 28 #[131, 206, 249, 292, 325, 368, 421, 474, 507, 560, 604, 657, 700, 733, 746, 779, 812, 825, 838, 851, 884, 927, 980, 1023, 1036, 1049, 1072, 1115, 1158]) by decide +kernel) sw10_33).trans <| ite_bd (
  rfl) (
  ite_bd (
  rfl) (
  ite_bd (
  rfl) (
  ite_bd (
  rfl) (
  ite_bd (
  rfl) (
  ite_bd (
  rfl) (
  ite_bd (
  rfl) (
  ite_bd (
  rfl) (
  ite_bd (
  rfl) (
  ite_bd (
  rfl) (
  ite_bd (
  rfl) (
  ite_bd (
  rfl) (
  ite_bd (
  rfl) (
  ite_bd (
  rfl) (
  ite_bd (
  rfl) (
  ite_bd (
  rfl) (
  ite_bd (
  rfl) (
  ite_bd (
  rfl) (
  ite_bd (
  rfl) (
  ite_bd (
  rfl) (
  ite_bd (
  rfl) (
  ite_bd (
  rfl) (
  ite_bd (
  rfl) (
  ite_bd (
  rfl) (
  ite_bd (
  rfl) (
  ite_bd (
  rfl) (
  ite_bd (
  rfl) (
  ite_bd (
  rfl) (
  ite_bd (
  rfl) (
  sm_bd (
  rfl)))))))))))))))))))))))))))))))
theorem b10_164 (d : Nat) (μ : jM) (r0 : Value) (a1 : Nat) (a2 : Nat) (i3 : Int32) (h0 : jisref r0 = true) : jR (d + 1) 10 164 [r0, (.ref a1), (.ref a2), .int i3] [] μ = (jaI μ r0 (i3 + 1)).bind fun x1 => (jaI μ r0 (i3 + 2)).bind fun x2 => (jaI μ r0 (i3 + 3)).bind fun x3 => (jaI μ r0 (i3 + 4)).bind fun x4 => (jaI μ r0 (i3 + 5)).bind fun x5 => (jaI μ r0 (i3 + 6)).bind fun x6 => (if jrecv μ 12 ((.ref a1)) = true then (jC d 12 [(.ref a1), .int x1, .int x2, .int x3, .int x4, .int x5, .int x6] μ).bind fun p7 => jR (d + 1) 10 199 [r0, (.ref a1), (.ref a2), .int i3] (p7.1.toList ++ []) p7.2 else none) :=
  (l_aload_n (show gPG 10 164 = some (.aload_n 1) by decide +kernel) rfl jr_ref).trans <|
  (l_aload_n (show gPG 10 165 = some (.aload_n 0) by decide +kernel) rfl h0).trans <|
  (l_iload_n (show gPG 10 166 = some (.iload_n 3) by decide +kernel) rfl).trans <|
  (l_iconst (show gPG 10 167 = some (.iconst 1) by decide +kernel) (c := 1) (by decide +kernel)).trans <|
  (l_iadd (show gPG 10 168 = some (.iadd) by decide +kernel) ).trans <|
  (l_iald (show gPG 10 169 = some (.iaload) by decide +kernel) ).trans <| bd_cg fun x1 hx1 =>
  (l_aload_n (show gPG 10 170 = some (.aload_n 0) by decide +kernel) rfl h0).trans <|
  (l_iload_n (show gPG 10 171 = some (.iload_n 3) by decide +kernel) rfl).trans <|
  (l_iconst (show gPG 10 172 = some (.iconst 2) by decide +kernel) (c := 2) (by decide +kernel)).trans <|
  (l_iadd (show gPG 10 173 = some (.iadd) by decide +kernel) ).trans <|
  (l_iald (show gPG 10 174 = some (.iaload) by decide +kernel) ).trans <| bd_cg fun x2 hx2 =>
  (l_aload_n (show gPG 10 175 = some (.aload_n 0) by decide +kernel) rfl h0).trans <|
  (l_iload_n (show gPG 10 176 = some (.iload_n 3) by decide +kernel) rfl).trans <|
  (l_iconst (show gPG 10 177 = some (.iconst 3) by decide +kernel) (c := 3) (by decide +kernel)).trans <|
  (l_iadd (show gPG 10 178 = some (.iadd) by decide +kernel) ).trans <|
  (l_iald (show gPG 10 179 = some (.iaload) by decide +kernel) ).trans <| bd_cg fun x3 hx3 =>
  (l_aload_n (show gPG 10 180 = some (.aload_n 0) by decide +kernel) rfl h0).trans <|
  (l_iload_n (show gPG 10 181 = some (.iload_n 3) by decide +kernel) rfl).trans <|
  (l_iconst (show gPG 10 182 = some (.iconst 4) by decide +kernel) (c := 4) (by decide +kernel)).trans <|
  (l_iadd (show gPG 10 183 = some (.iadd) by decide +kernel) ).trans <|
  (l_iald (show gPG 10 184 = some (.iaload) by decide +kernel) ).trans <| bd_cg fun x4 hx4 =>
  (l_aload_n (show gPG 10 185 = some (.aload_n 0) by decide +kernel) rfl h0).trans <|
  (l_iload_n (show gPG 10 186 = some (.iload_n 3) by decide +kernel) rfl).trans <|
  (l_iconst (show gPG 10 187 = some (.iconst 5) by decide +kernel) (c := 5) (by decide +kernel)).trans <|
  (l_iadd (show gPG 10 188 = some (.iadd) by decide +kernel) ).trans <|
  (l_iald (show gPG 10 189 = some (.iaload) by decide +kernel) ).trans <| bd_cg fun x5 hx5 =>
  (l_aload_n (show gPG 10 190 = some (.aload_n 0) by decide +kernel) rfl h0).trans <|
  (l_iload_n (show gPG 10 191 = some (.iload_n 3) by decide +kernel) rfl).trans <|
  (l_bipush (show gPG 10 192 = some (.bipush 6) by decide +kernel) (c := 6) (by decide +kernel)).trans <|
  (l_iadd (show gPG 10 194 = some (.iadd) by decide +kernel) ).trans <|
  (l_iald (show gPG 10 195 = some (.iaload) by decide +kernel) ).trans <| bd_cg fun x6 hx6 =>
  l_callV (u := 1) (v := (.ref a1)) (as := [.int x1, .int x2, .int x3, .int x4, .int x5, .int x6]) (show gPG 10 196 = some (jinvI 1 13) by decide +kernel) (by decide) (cc := 12) (na := 7) (kd := 12) (q4 := 0) (z := 10) (rest := []) (by decide +kernel) (by decide +kernel)  rfl (show (7 : Nat) ≤ 7 by decide) rfl cs0 (by decide +kernel) (cai (cai (cai (cai (cai (cai (cav jr_ref ca0)))))))
theorem b10_199 (d : Nat) (μ : jM) (r0 : Value) (a1 : Nat) (a2 : Nat) (i3 : Int32) (s0 : Int32) (h0 : jisref r0 = true) : jR (d + 1) 10 199 [r0, (.ref a1), (.ref a2), .int i3] [.int s0] μ = (jaI μ r0 (i3 + 1)).bind fun x1 => (jaI μ r0 (i3 + 2)).bind fun x2 => (jaI μ r0 (i3 + 3)).bind fun x3 => (jaI μ r0 (i3 + 4)).bind fun x4 => (jaI μ r0 (i3 + 5)).bind fun x5 => (jaI μ r0 (i3 + 6)).bind fun x6 => (if jrecv μ 13 ((.ref a2)) = true then (jC d 164 [(.ref a2), .int x1, .int x2, .int x3, .int x4, .int x5, .int x6] μ).bind fun p7 => jR (d + 1) 10 234 [r0, (.ref a1), (.ref a2), .int i3] (p7.1.toList ++ [.int s0]) p7.2 else none) :=
  (l_aload_n (show gPG 10 199 = some (.aload_n 2) by decide +kernel) rfl jr_ref).trans <|
  (l_aload_n (show gPG 10 200 = some (.aload_n 0) by decide +kernel) rfl h0).trans <|
  (l_iload_n (show gPG 10 201 = some (.iload_n 3) by decide +kernel) rfl).trans <|
  (l_iconst (show gPG 10 202 = some (.iconst 1) by decide +kernel) (c := 1) (by decide +kernel)).trans <|
  (l_iadd (show gPG 10 203 = some (.iadd) by decide +kernel) ).trans <|
  (l_iald (show gPG 10 204 = some (.iaload) by decide +kernel) ).trans <| bd_cg fun x1 hx1 =>
  (l_aload_n (show gPG 10 205 = some (.aload_n 0) by decide +kernel) rfl h0).trans <|
  (l_iload_n (show gPG 10 206 = some (.iload_n 3) by decide +kernel) rfl).trans <|
  (l_iconst (show gPG 10 207 = some (.iconst 2) by decide +kernel) (c := 2) (by decide +kernel)).trans <|
  (l_iadd (show gPG 10 208 = some (.iadd) by decide +kernel) ).trans <|
  (l_iald (show gPG 10 209 = some (.iaload) by decide +kernel) ).trans <| bd_cg fun x2 hx2 =>
  (l_aload_n (show gPG 10 210 = some (.aload_n 0) by decide +kernel) rfl h0).trans <|
  (l_iload_n (show gPG 10 211 = some (.iload_n 3) by decide +kernel) rfl).trans <|
  (l_iconst (show gPG 10 212 = some (.iconst 3) by decide +kernel) (c := 3) (by decide +kernel)).trans <|
  (l_iadd (show gPG 10 213 = some (.iadd) by decide +kernel) ).trans <|
  (l_iald (show gPG 10 214 = some (.iaload) by decide +kernel) ).trans <| bd_cg fun x3 hx3 =>
  (l_aload_n (show gPG 10 215 = some (.aload_n 0) by decide +kernel) rfl h0).trans <|
  (l_iload_n (show gPG 10 216 = some (.iload_n 3) by decide +kernel) rfl).trans <|
  (l_iconst (show gPG 10 217 = some (.iconst 4) by decide +kernel) (c := 4) (by decide +kernel)).trans <|
  (l_iadd (show gPG 10 218 = some (.iadd) by decide +kernel) ).trans <|
  (l_iald (show gPG 10 219 = some (.iaload) by decide +kernel) ).trans <| bd_cg fun x4 hx4 =>
  (l_aload_n (show gPG 10 220 = some (.aload_n 0) by decide +kernel) rfl h0).trans <|
  (l_iload_n (show gPG 10 221 = some (.iload_n 3) by decide +kernel) rfl).trans <|
  (l_iconst (show gPG 10 222 = some (.iconst 5) by decide +kernel) (c := 5) (by decide +kernel)).trans <|
  (l_iadd (show gPG 10 223 = some (.iadd) by decide +kernel) ).trans <|
  (l_iald (show gPG 10 224 = some (.iaload) by decide +kernel) ).trans <| bd_cg fun x5 hx5 =>
  (l_aload_n (show gPG 10 225 = some (.aload_n 0) by decide +kernel) rfl h0).trans <|
  (l_iload_n (show gPG 10 226 = some (.iload_n 3) by decide +kernel) rfl).trans <|
  (l_bipush (show gPG 10 227 = some (.bipush 6) by decide +kernel) (c := 6) (by decide +kernel)).trans <|
  (l_iadd (show gPG 10 229 = some (.iadd) by decide +kernel) ).trans <|
  (l_iald (show gPG 10 230 = some (.iaload) by decide +kernel) ).trans <| bd_cg fun x6 hx6 =>
  l_callV (u := 1) (v := (.ref a2)) (as := [.int x1, .int x2, .int x3, .int x4, .int x5, .int x6]) (show gPG 10 231 = some (jinvI 1 17) by decide +kernel) (by decide) (cc := 164) (na := 7) (kd := 13) (q4 := 0) (z := 10) (rest := [.int s0]) (by decide +kernel) (by decide +kernel)  rfl (show (7 : Nat) ≤ 8 by decide) rfl (csi cs0) (by decide +kernel) (cai (cai (cai (cai (cai (cai (cav jr_ref ca0)))))))
theorem b10_234 (d : Nat) (μ : jM) (r0 : Value) (a1 : Nat) (a2 : Nat) (i3 : Int32) (s0 : Int32) (s1 : Int32) (h0 : jisref r0 = true) : jR d 10 234 [r0, (.ref a1), (.ref a2), .int i3] [.int s1, .int s0] μ = (if s0 = s1 then jR d 10 1254 [r0, (.ref a1), (.ref a2), .int i3] [] μ else some (some (.int 0), μ)) :=
  (l_cmp (show gPG 10 234 = some (.if_icmp .eq 1020) by decide +kernel) (t := 1254) (by decide +kernel)).trans <| jm_eq.trans <| ite_cg (
  rfl) (
  (l_iconst (show gPG 10 237 = some (.iconst 0) by decide +kernel) (c := 0) (by decide +kernel)).trans <|
  l_iretK (show gPG 10 238 = some (.ireturn) by decide +kernel) (by decide +kernel))
theorem b10_239 (d : Nat) (μ : jM) (r0 : Value) (a1 : Nat) (a2 : Nat) (i3 : Int32) (h0 : jisref r0 = true) : jR (d + 1) 10 239 [r0, (.ref a1), (.ref a2), .int i3] [] μ = (jaI μ r0 (i3 + 1)).bind fun x1 => (jaI μ r0 (i3 + 2)).bind fun x2 => (jaI μ r0 (i3 + 3)).bind fun x3 => (if jrecv μ 12 ((.ref a1)) = true then (jC d 14 [(.ref a1), .int x1, .int x2, .int x3] μ).bind fun p4 => jR (d + 1) 10 258 [r0, (.ref a1), (.ref a2), .int i3] (p4.1.toList ++ []) p4.2 else none) :=
  (l_aload_n (show gPG 10 239 = some (.aload_n 1) by decide +kernel) rfl jr_ref).trans <|
  (l_aload_n (show gPG 10 240 = some (.aload_n 0) by decide +kernel) rfl h0).trans <|
  (l_iload_n (show gPG 10 241 = some (.iload_n 3) by decide +kernel) rfl).trans <|
  (l_iconst (show gPG 10 242 = some (.iconst 1) by decide +kernel) (c := 1) (by decide +kernel)).trans <|
  (l_iadd (show gPG 10 243 = some (.iadd) by decide +kernel) ).trans <|
  (l_iald (show gPG 10 244 = some (.iaload) by decide +kernel) ).trans <| bd_cg fun x1 hx1 =>
  (l_aload_n (show gPG 10 245 = some (.aload_n 0) by decide +kernel) rfl h0).trans <|
  (l_iload_n (show gPG 10 246 = some (.iload_n 3) by decide +kernel) rfl).trans <|
  (l_iconst (show gPG 10 247 = some (.iconst 2) by decide +kernel) (c := 2) (by decide +kernel)).trans <|
  (l_iadd (show gPG 10 248 = some (.iadd) by decide +kernel) ).trans <|
  (l_iald (show gPG 10 249 = some (.iaload) by decide +kernel) ).trans <| bd_cg fun x2 hx2 =>
  (l_aload_n (show gPG 10 250 = some (.aload_n 0) by decide +kernel) rfl h0).trans <|
  (l_iload_n (show gPG 10 251 = some (.iload_n 3) by decide +kernel) rfl).trans <|
  (l_iconst (show gPG 10 252 = some (.iconst 3) by decide +kernel) (c := 3) (by decide +kernel)).trans <|
  (l_iadd (show gPG 10 253 = some (.iadd) by decide +kernel) ).trans <|
  (l_iald (show gPG 10 254 = some (.iaload) by decide +kernel) ).trans <| bd_cg fun x3 hx3 =>
  l_callV (u := 1) (v := (.ref a1)) (as := [.int x1, .int x2, .int x3]) (show gPG 10 255 = some (jinvI 1 18) by decide +kernel) (by decide) (cc := 14) (na := 4) (kd := 12) (q4 := 0) (z := 10) (rest := []) (by decide +kernel) (by decide +kernel)  rfl (show (4 : Nat) ≤ 4 by decide) rfl cs0 (by decide +kernel) (cai (cai (cai (cav jr_ref ca0))))
theorem b10_258 (d : Nat) (μ : jM) (r0 : Value) (a1 : Nat) (a2 : Nat) (i3 : Int32) (s0 : Int32) (h0 : jisref r0 = true) : jR (d + 1) 10 258 [r0, (.ref a1), (.ref a2), .int i3] [.int s0] μ = (jaI μ r0 (i3 + 1)).bind fun x1 => (jaI μ r0 (i3 + 2)).bind fun x2 => (jaI μ r0 (i3 + 3)).bind fun x3 => (if jrecv μ 13 ((.ref a2)) = true then (jC d 167 [(.ref a2), .int x1, .int x2, .int x3] μ).bind fun p4 => jR (d + 1) 10 277 [r0, (.ref a1), (.ref a2), .int i3] (p4.1.toList ++ [.int s0]) p4.2 else none) :=
  (l_aload_n (show gPG 10 258 = some (.aload_n 2) by decide +kernel) rfl jr_ref).trans <|
  (l_aload_n (show gPG 10 259 = some (.aload_n 0) by decide +kernel) rfl h0).trans <|
  (l_iload_n (show gPG 10 260 = some (.iload_n 3) by decide +kernel) rfl).trans <|
  (l_iconst (show gPG 10 261 = some (.iconst 1) by decide +kernel) (c := 1) (by decide +kernel)).trans <|
  (l_iadd (show gPG 10 262 = some (.iadd) by decide +kernel) ).trans <|
  (l_iald (show gPG 10 263 = some (.iaload) by decide +kernel) ).trans <| bd_cg fun x1 hx1 =>
  (l_aload_n (show gPG 10 264 = some (.aload_n 0) by decide +kernel) rfl h0).trans <|
  (l_iload_n (show gPG 10 265 = some (.iload_n 3) by decide +kernel) rfl).trans <|
  (l_iconst (show gPG 10 266 = some (.iconst 2) by decide +kernel) (c := 2) (by decide +kernel)).trans <|
  (l_iadd (show gPG 10 267 = some (.iadd) by decide +kernel) ).trans <|
  (l_iald (show gPG 10 268 = some (.iaload) by decide +kernel) ).trans <| bd_cg fun x2 hx2 =>
  (l_aload_n (show gPG 10 269 = some (.aload_n 0) by decide +kernel) rfl h0).trans <|
  (l_iload_n (show gPG 10 270 = some (.iload_n 3) by decide +kernel) rfl).trans <|
  (l_iconst (show gPG 10 271 = some (.iconst 3) by decide +kernel) (c := 3) (by decide +kernel)).trans <|
  (l_iadd (show gPG 10 272 = some (.iadd) by decide +kernel) ).trans <|
  (l_iald (show gPG 10 273 = some (.iaload) by decide +kernel) ).trans <| bd_cg fun x3 hx3 =>
  l_callV (u := 1) (v := (.ref a2)) (as := [.int x1, .int x2, .int x3]) (show gPG 10 274 = some (jinvI 1 22) by decide +kernel) (by decide) (cc := 167) (na := 4) (kd := 13) (q4 := 0) (z := 10) (rest := [.int s0]) (by decide +kernel) (by decide +kernel)  rfl (show (4 : Nat) ≤ 5 by decide) rfl (csi cs0) (by decide +kernel) (cai (cai (cai (cav jr_ref ca0))))
theorem b10_277 (d : Nat) (μ : jM) (r0 : Value) (a1 : Nat) (a2 : Nat) (i3 : Int32) (s0 : Int32) (s1 : Int32) (h0 : jisref r0 = true) : jR d 10 277 [r0, (.ref a1), (.ref a2), .int i3] [.int s1, .int s0] μ = (if s0 = s1 then jR d 10 1254 [r0, (.ref a1), (.ref a2), .int i3] [] μ else some (some (.int 0), μ)) :=
  (l_cmp (show gPG 10 277 = some (.if_icmp .eq 977) by decide +kernel) (t := 1254) (by decide +kernel)).trans <| jm_eq.trans <| ite_cg (
  rfl) (
  (l_iconst (show gPG 10 280 = some (.iconst 0) by decide +kernel) (c := 0) (by decide +kernel)).trans <|
  l_iretK (show gPG 10 281 = some (.ireturn) by decide +kernel) (by decide +kernel))
theorem b10_282 (d : Nat) (μ : jM) (r0 : Value) (a1 : Nat) (a2 : Nat) (i3 : Int32) (h0 : jisref r0 = true) : jR (d + 1) 10 282 [r0, (.ref a1), (.ref a2), .int i3] [] μ = (jaI μ r0 (i3 + 1)).bind fun x1 => (jaI μ r0 (i3 + 2)).bind fun x2 => (jaI μ r0 (i3 + 3)).bind fun x3 => (if jrecv μ 12 ((.ref a1)) = true then (jC d 21 [(.ref a1), .int x1, .int x2, .int x3] μ).bind fun p4 => jR (d + 1) 10 301 [r0, (.ref a1), (.ref a2), .int i3] (p4.1.toList ++ []) p4.2 else none) :=
  (l_aload_n (show gPG 10 282 = some (.aload_n 1) by decide +kernel) rfl jr_ref).trans <|
  (l_aload_n (show gPG 10 283 = some (.aload_n 0) by decide +kernel) rfl h0).trans <|
  (l_iload_n (show gPG 10 284 = some (.iload_n 3) by decide +kernel) rfl).trans <|
  (l_iconst (show gPG 10 285 = some (.iconst 1) by decide +kernel) (c := 1) (by decide +kernel)).trans <|
  (l_iadd (show gPG 10 286 = some (.iadd) by decide +kernel) ).trans <|
  (l_iald (show gPG 10 287 = some (.iaload) by decide +kernel) ).trans <| bd_cg fun x1 hx1 =>
  (l_aload_n (show gPG 10 288 = some (.aload_n 0) by decide +kernel) rfl h0).trans <|
  (l_iload_n (show gPG 10 289 = some (.iload_n 3) by decide +kernel) rfl).trans <|
  (l_iconst (show gPG 10 290 = some (.iconst 2) by decide +kernel) (c := 2) (by decide +kernel)).trans <|
  (l_iadd (show gPG 10 291 = some (.iadd) by decide +kernel) ).trans <|
  (l_iald (show gPG 10 292 = some (.iaload) by decide +kernel) ).trans <| bd_cg fun x2 hx2 =>
  (l_aload_n (show gPG 10 293 = some (.aload_n 0) by decide +kernel) rfl h0).trans <|
  (l_iload_n (show gPG 10 294 = some (.iload_n 3) by decide +kernel) rfl).trans <|
  (l_iconst (show gPG 10 295 = some (.iconst 3) by decide +kernel) (c := 3) (by decide +kernel)).trans <|
  (l_iadd (show gPG 10 296 = some (.iadd) by decide +kernel) ).trans <|
  (l_iald (show gPG 10 297 = some (.iaload) by decide +kernel) ).trans <| bd_cg fun x3 hx3 =>
  l_callV (u := 1) (v := (.ref a1)) (as := [.int x1, .int x2, .int x3]) (show gPG 10 298 = some (jinvI 1 23) by decide +kernel) (by decide) (cc := 21) (na := 4) (kd := 12) (q4 := 0) (z := 10) (rest := []) (by decide +kernel) (by decide +kernel)  rfl (show (4 : Nat) ≤ 4 by decide) rfl cs0 (by decide +kernel) (cai (cai (cai (cav jr_ref ca0))))
theorem b10_301 (d : Nat) (μ : jM) (r0 : Value) (a1 : Nat) (a2 : Nat) (i3 : Int32) (s0 : Int32) (h0 : jisref r0 = true) : jR (d + 1) 10 301 [r0, (.ref a1), (.ref a2), .int i3] [.int s0] μ = (jaI μ r0 (i3 + 1)).bind fun x1 => (jaI μ r0 (i3 + 2)).bind fun x2 => (jaI μ r0 (i3 + 3)).bind fun x3 => (if jrecv μ 13 ((.ref a2)) = true then (jC d 193 [(.ref a2), .int x1, .int x2, .int x3] μ).bind fun p4 => jR (d + 1) 10 320 [r0, (.ref a1), (.ref a2), .int i3] (p4.1.toList ++ [.int s0]) p4.2 else none) :=
  (l_aload_n (show gPG 10 301 = some (.aload_n 2) by decide +kernel) rfl jr_ref).trans <|
  (l_aload_n (show gPG 10 302 = some (.aload_n 0) by decide +kernel) rfl h0).trans <|
  (l_iload_n (show gPG 10 303 = some (.iload_n 3) by decide +kernel) rfl).trans <|
  (l_iconst (show gPG 10 304 = some (.iconst 1) by decide +kernel) (c := 1) (by decide +kernel)).trans <|
  (l_iadd (show gPG 10 305 = some (.iadd) by decide +kernel) ).trans <|
  (l_iald (show gPG 10 306 = some (.iaload) by decide +kernel) ).trans <| bd_cg fun x1 hx1 =>
  (l_aload_n (show gPG 10 307 = some (.aload_n 0) by decide +kernel) rfl h0).trans <|
  (l_iload_n (show gPG 10 308 = some (.iload_n 3) by decide +kernel) rfl).trans <|
  (l_iconst (show gPG 10 309 = some (.iconst 2) by decide +kernel) (c := 2) (by decide +kernel)).trans <|
  (l_iadd (show gPG 10 310 = some (.iadd) by decide +kernel) ).trans <|
  (l_iald (show gPG 10 311 = some (.iaload) by decide +kernel) ).trans <| bd_cg fun x2 hx2 =>
  (l_aload_n (show gPG 10 312 = some (.aload_n 0) by decide +kernel) rfl h0).trans <|
  (l_iload_n (show gPG 10 313 = some (.iload_n 3) by decide +kernel) rfl).trans <|
  (l_iconst (show gPG 10 314 = some (.iconst 3) by decide +kernel) (c := 3) (by decide +kernel)).trans <|
  (l_iadd (show gPG 10 315 = some (.iadd) by decide +kernel) ).trans <|
  (l_iald (show gPG 10 316 = some (.iaload) by decide +kernel) ).trans <| bd_cg fun x3 hx3 =>
  l_callV (u := 1) (v := (.ref a2)) (as := [.int x1, .int x2, .int x3]) (show gPG 10 317 = some (jinvI 1 26) by decide +kernel) (by decide) (cc := 193) (na := 4) (kd := 13) (q4 := 0) (z := 10) (rest := [.int s0]) (by decide +kernel) (by decide +kernel)  rfl (show (4 : Nat) ≤ 5 by decide) rfl (csi cs0) (by decide +kernel) (cai (cai (cai (cav jr_ref ca0))))
theorem b10_320 (d : Nat) (μ : jM) (r0 : Value) (a1 : Nat) (a2 : Nat) (i3 : Int32) (s0 : Int32) (s1 : Int32) (h0 : jisref r0 = true) : jR d 10 320 [r0, (.ref a1), (.ref a2), .int i3] [.int s1, .int s0] μ = (if s0 = s1 then jR d 10 1254 [r0, (.ref a1), (.ref a2), .int i3] [] μ else some (some (.int 0), μ)) :=
  (l_cmp (show gPG 10 320 = some (.if_icmp .eq 934) by decide +kernel) (t := 1254) (by decide +kernel)).trans <| jm_eq.trans <| ite_cg (
  rfl) (
  (l_iconst (show gPG 10 323 = some (.iconst 0) by decide +kernel) (c := 0) (by decide +kernel)).trans <|
  l_iretK (show gPG 10 324 = some (.ireturn) by decide +kernel) (by decide +kernel))
theorem b10_325 (d : Nat) (μ : jM) (r0 : Value) (a1 : Nat) (a2 : Nat) (i3 : Int32) (h0 : jisref r0 = true) : jR (d + 1) 10 325 [r0, (.ref a1), (.ref a2), .int i3] [] μ = (jaI μ r0 (i3 + 1)).bind fun x1 => (jaI μ r0 (i3 + 2)).bind fun x2 => (if jrecv μ 12 ((.ref a1)) = true then (jC d 22 [(.ref a1), .int x1, .int x2] μ).bind fun p3 => jR (d + 1) 10 339 [r0, (.ref a1), (.ref a2), .int i3] (p3.1.toList ++ []) p3.2 else none) :=
  (l_aload_n (show gPG 10 325 = some (.aload_n 1) by decide +kernel) rfl jr_ref).trans <|
  (l_aload_n (show gPG 10 326 = some (.aload_n 0) by decide +kernel) rfl h0).trans <|
  (l_iload_n (show gPG 10 327 = some (.iload_n 3) by decide +kernel) rfl).trans <|
  (l_iconst (show gPG 10 328 = some (.iconst 1) by decide +kernel) (c := 1) (by decide +kernel)).trans <|
  (l_iadd (show gPG 10 329 = some (.iadd) by decide +kernel) ).trans <|
  (l_iald (show gPG 10 330 = some (.iaload) by decide +kernel) ).trans <| bd_cg fun x1 hx1 =>
  (l_aload_n (show gPG 10 331 = some (.aload_n 0) by decide +kernel) rfl h0).trans <|
  (l_iload_n (show gPG 10 332 = some (.iload_n 3) by decide +kernel) rfl).trans <|
  (l_iconst (show gPG 10 333 = some (.iconst 2) by decide +kernel) (c := 2) (by decide +kernel)).trans <|
  (l_iadd (show gPG 10 334 = some (.iadd) by decide +kernel) ).trans <|
  (l_iald (show gPG 10 335 = some (.iaload) by decide +kernel) ).trans <| bd_cg fun x2 hx2 =>
  l_callV (u := 1) (v := (.ref a1)) (as := [.int x1, .int x2]) (show gPG 10 336 = some (jinvI 1 27) by decide +kernel) (by decide) (cc := 22) (na := 3) (kd := 12) (q4 := 0) (z := 10) (rest := []) (by decide +kernel) (by decide +kernel)  rfl (show (3 : Nat) ≤ 3 by decide) rfl cs0 (by decide +kernel) (cai (cai (cav jr_ref ca0)))
theorem b10_339 (d : Nat) (μ : jM) (r0 : Value) (a1 : Nat) (a2 : Nat) (i3 : Int32) (s0 : Int32) (h0 : jisref r0 = true) : jR (d + 1) 10 339 [r0, (.ref a1), (.ref a2), .int i3] [.int s0] μ = (jaI μ r0 (i3 + 1)).bind fun x1 => (jaI μ r0 (i3 + 2)).bind fun x2 => (if jrecv μ 13 ((.ref a2)) = true then (jC d 199 [(.ref a2), .int x1, .int x2] μ).bind fun p3 => jR (d + 1) 10 353 [r0, (.ref a1), (.ref a2), .int i3] (p3.1.toList ++ [.int s0]) p3.2 else none) :=
  (l_aload_n (show gPG 10 339 = some (.aload_n 2) by decide +kernel) rfl jr_ref).trans <|
  (l_aload_n (show gPG 10 340 = some (.aload_n 0) by decide +kernel) rfl h0).trans <|
  (l_iload_n (show gPG 10 341 = some (.iload_n 3) by decide +kernel) rfl).trans <|
  (l_iconst (show gPG 10 342 = some (.iconst 1) by decide +kernel) (c := 1) (by decide +kernel)).trans <|
  (l_iadd (show gPG 10 343 = some (.iadd) by decide +kernel) ).trans <|
  (l_iald (show gPG 10 344 = some (.iaload) by decide +kernel) ).trans <| bd_cg fun x1 hx1 =>
  (l_aload_n (show gPG 10 345 = some (.aload_n 0) by decide +kernel) rfl h0).trans <|
  (l_iload_n (show gPG 10 346 = some (.iload_n 3) by decide +kernel) rfl).trans <|
  (l_iconst (show gPG 10 347 = some (.iconst 2) by decide +kernel) (c := 2) (by decide +kernel)).trans <|
  (l_iadd (show gPG 10 348 = some (.iadd) by decide +kernel) ).trans <|
  (l_iald (show gPG 10 349 = some (.iaload) by decide +kernel) ).trans <| bd_cg fun x2 hx2 =>
  l_callV (u := 1) (v := (.ref a2)) (as := [.int x1, .int x2]) (show gPG 10 350 = some (jinvI 1 31) by decide +kernel) (by decide) (cc := 199) (na := 3) (kd := 13) (q4 := 0) (z := 10) (rest := [.int s0]) (by decide +kernel) (by decide +kernel)  rfl (show (3 : Nat) ≤ 4 by decide) rfl (csi cs0) (by decide +kernel) (cai (cai (cav jr_ref ca0)))
theorem b10_353 (d : Nat) (μ : jM) (r0 : Value) (a1 : Nat) (a2 : Nat) (i3 : Int32) (s0 : Int32) (s1 : Int32) (h0 : jisref r0 = true) : jR d 10 353 [r0, (.ref a1), (.ref a2), .int i3] [.int s1, .int s0] μ = (if s0 = s1 then jR d 10 1254 [r0, (.ref a1), (.ref a2), .int i3] [] μ else some (some (.int 0), μ)) :=
  (l_cmp (show gPG 10 353 = some (.if_icmp .eq 901) by decide +kernel) (t := 1254) (by decide +kernel)).trans <| jm_eq.trans <| ite_cg (
  rfl) (
  (l_iconst (show gPG 10 356 = some (.iconst 0) by decide +kernel) (c := 0) (by decide +kernel)).trans <|
  l_iretK (show gPG 10 357 = some (.ireturn) by decide +kernel) (by decide +kernel))
theorem b10_358 (d : Nat) (μ : jM) (r0 : Value) (a1 : Nat) (a2 : Nat) (i3 : Int32) (h0 : jisref r0 = true) : jR (d + 1) 10 358 [r0, (.ref a1), (.ref a2), .int i3] [] μ = (jaI μ r0 (i3 + 1)).bind fun x1 => (jaI μ r0 (i3 + 2)).bind fun x2 => (jaI μ r0 (i3 + 3)).bind fun x3 => (if jrecv μ 12 ((.ref a1)) = true then (jC d 24 [(.ref a1), .int x1, .int x2, .int x3] μ).bind fun p4 => jR (d + 1) 10 377 [r0, (.ref a1), (.ref a2), .int i3] (p4.1.toList ++ []) p4.2 else none) :=
  (l_aload_n (show gPG 10 358 = some (.aload_n 1) by decide +kernel) rfl jr_ref).trans <|
  (l_aload_n (show gPG 10 359 = some (.aload_n 0) by decide +kernel) rfl h0).trans <|
  (l_iload_n (show gPG 10 360 = some (.iload_n 3) by decide +kernel) rfl).trans <|
  (l_iconst (show gPG 10 361 = some (.iconst 1) by decide +kernel) (c := 1) (by decide +kernel)).trans <|
  (l_iadd (show gPG 10 362 = some (.iadd) by decide +kernel) ).trans <|
  (l_iald (show gPG 10 363 = some (.iaload) by decide +kernel) ).trans <| bd_cg fun x1 hx1 =>
  (l_aload_n (show gPG 10 364 = some (.aload_n 0) by decide +kernel) rfl h0).trans <|
  (l_iload_n (show gPG 10 365 = some (.iload_n 3) by decide +kernel) rfl).trans <|
  (l_iconst (show gPG 10 366 = some (.iconst 2) by decide +kernel) (c := 2) (by decide +kernel)).trans <|
  (l_iadd (show gPG 10 367 = some (.iadd) by decide +kernel) ).trans <|
  (l_iald (show gPG 10 368 = some (.iaload) by decide +kernel) ).trans <| bd_cg fun x2 hx2 =>
  (l_aload_n (show gPG 10 369 = some (.aload_n 0) by decide +kernel) rfl h0).trans <|
  (l_iload_n (show gPG 10 370 = some (.iload_n 3) by decide +kernel) rfl).trans <|
  (l_iconst (show gPG 10 371 = some (.iconst 3) by decide +kernel) (c := 3) (by decide +kernel)).trans <|
  (l_iadd (show gPG 10 372 = some (.iadd) by decide +kernel) ).trans <|
  (l_iald (show gPG 10 373 = some (.iaload) by decide +kernel) ).trans <| bd_cg fun x3 hx3 =>
  l_callV (u := 1) (v := (.ref a1)) (as := [.int x1, .int x2, .int x3]) (show gPG 10 374 = some (jinvI 1 32) by decide +kernel) (by decide) (cc := 24) (na := 4) (kd := 12) (q4 := 0) (z := 10) (rest := []) (by decide +kernel) (by decide +kernel)  rfl (show (4 : Nat) ≤ 4 by decide) rfl cs0 (by decide +kernel) (cai (cai (cai (cav jr_ref ca0))))
theorem b10_377 (d : Nat) (μ : jM) (r0 : Value) (a1 : Nat) (a2 : Nat) (i3 : Int32) (s0 : Int32) (h0 : jisref r0 = true) : jR (d + 1) 10 377 [r0, (.ref a1), (.ref a2), .int i3] [.int s0] μ = (jaI μ r0 (i3 + 1)).bind fun x1 => (jaI μ r0 (i3 + 2)).bind fun x2 => (jaI μ r0 (i3 + 3)).bind fun x3 => (if jrecv μ 13 ((.ref a2)) = true then (jC d 201 [(.ref a2), .int x1, .int x2, .int x3] μ).bind fun p4 => jR (d + 1) 10 396 [r0, (.ref a1), (.ref a2), .int i3] (p4.1.toList ++ [.int s0]) p4.2 else none) :=
  (l_aload_n (show gPG 10 377 = some (.aload_n 2) by decide +kernel) rfl jr_ref).trans <|
  (l_aload_n (show gPG 10 378 = some (.aload_n 0) by decide +kernel) rfl h0).trans <|
  (l_iload_n (show gPG 10 379 = some (.iload_n 3) by decide +kernel) rfl).trans <|
  (l_iconst (show gPG 10 380 = some (.iconst 1) by decide +kernel) (c := 1) (by decide +kernel)).trans <|
  (l_iadd (show gPG 10 381 = some (.iadd) by decide +kernel) ).trans <|
  (l_iald (show gPG 10 382 = some (.iaload) by decide +kernel) ).trans <| bd_cg fun x1 hx1 =>
  (l_aload_n (show gPG 10 383 = some (.aload_n 0) by decide +kernel) rfl h0).trans <|
  (l_iload_n (show gPG 10 384 = some (.iload_n 3) by decide +kernel) rfl).trans <|
  (l_iconst (show gPG 10 385 = some (.iconst 2) by decide +kernel) (c := 2) (by decide +kernel)).trans <|
  (l_iadd (show gPG 10 386 = some (.iadd) by decide +kernel) ).trans <|
  (l_iald (show gPG 10 387 = some (.iaload) by decide +kernel) ).trans <| bd_cg fun x2 hx2 =>
  (l_aload_n (show gPG 10 388 = some (.aload_n 0) by decide +kernel) rfl h0).trans <|
  (l_iload_n (show gPG 10 389 = some (.iload_n 3) by decide +kernel) rfl).trans <|
  (l_iconst (show gPG 10 390 = some (.iconst 3) by decide +kernel) (c := 3) (by decide +kernel)).trans <|
  (l_iadd (show gPG 10 391 = some (.iadd) by decide +kernel) ).trans <|
  (l_iald (show gPG 10 392 = some (.iaload) by decide +kernel) ).trans <| bd_cg fun x3 hx3 =>
  l_callV (u := 1) (v := (.ref a2)) (as := [.int x1, .int x2, .int x3]) (show gPG 10 393 = some (jinvI 1 35) by decide +kernel) (by decide) (cc := 201) (na := 4) (kd := 13) (q4 := 0) (z := 10) (rest := [.int s0]) (by decide +kernel) (by decide +kernel)  rfl (show (4 : Nat) ≤ 5 by decide) rfl (csi cs0) (by decide +kernel) (cai (cai (cai (cav jr_ref ca0))))
theorem b10_396 (d : Nat) (μ : jM) (r0 : Value) (a1 : Nat) (a2 : Nat) (i3 : Int32) (s0 : Int32) (s1 : Int32) (h0 : jisref r0 = true) : jR d 10 396 [r0, (.ref a1), (.ref a2), .int i3] [.int s1, .int s0] μ = (if s0 = s1 then jR d 10 1254 [r0, (.ref a1), (.ref a2), .int i3] [] μ else some (some (.int 0), μ)) :=
  (l_cmp (show gPG 10 396 = some (.if_icmp .eq 858) by decide +kernel) (t := 1254) (by decide +kernel)).trans <| jm_eq.trans <| ite_cg (
  rfl) (
  (l_iconst (show gPG 10 399 = some (.iconst 0) by decide +kernel) (c := 0) (by decide +kernel)).trans <|
  l_iretK (show gPG 10 400 = some (.ireturn) by decide +kernel) (by decide +kernel))
theorem b10_401 (d : Nat) (μ : jM) (r0 : Value) (a1 : Nat) (a2 : Nat) (i3 : Int32) (h0 : jisref r0 = true) : jR (d + 1) 10 401 [r0, (.ref a1), (.ref a2), .int i3] [] μ = (jaI μ r0 (i3 + 1)).bind fun x1 => (jaI μ r0 (i3 + 2)).bind fun x2 => (jaI μ r0 (i3 + 3)).bind fun x3 => (jaI μ r0 (i3 + 4)).bind fun x4 => (if jrecv μ 12 ((.ref a1)) = true then (jC d 25 [(.ref a1), .int x1, .int x2, .int x3, .int x4] μ).bind fun p5 => jR (d + 1) 10 425 [r0, (.ref a1), (.ref a2), .int i3] (p5.1.toList ++ []) p5.2 else none) :=
  (l_aload_n (show gPG 10 401 = some (.aload_n 1) by decide +kernel) rfl jr_ref).trans <|
  (l_aload_n (show gPG 10 402 = some (.aload_n 0) by decide +kernel) rfl h0).trans <|
  (l_iload_n (show gPG 10 403 = some (.iload_n 3) by decide +kernel) rfl).trans <|
  (l_iconst (show gPG 10 404 = some (.iconst 1) by decide +kernel) (c := 1) (by decide +kernel)).trans <|
  (l_iadd (show gPG 10 405 = some (.iadd) by decide +kernel) ).trans <|
  (l_iald (show gPG 10 406 = some (.iaload) by decide +kernel) ).trans <| bd_cg fun x1 hx1 =>
  (l_aload_n (show gPG 10 407 = some (.aload_n 0) by decide +kernel) rfl h0).trans <|
  (l_iload_n (show gPG 10 408 = some (.iload_n 3) by decide +kernel) rfl).trans <|
  (l_iconst (show gPG 10 409 = some (.iconst 2) by decide +kernel) (c := 2) (by decide +kernel)).trans <|
  (l_iadd (show gPG 10 410 = some (.iadd) by decide +kernel) ).trans <|
  (l_iald (show gPG 10 411 = some (.iaload) by decide +kernel) ).trans <| bd_cg fun x2 hx2 =>
  (l_aload_n (show gPG 10 412 = some (.aload_n 0) by decide +kernel) rfl h0).trans <|
  (l_iload_n (show gPG 10 413 = some (.iload_n 3) by decide +kernel) rfl).trans <|
  (l_iconst (show gPG 10 414 = some (.iconst 3) by decide +kernel) (c := 3) (by decide +kernel)).trans <|
  (l_iadd (show gPG 10 415 = some (.iadd) by decide +kernel) ).trans <|
  (l_iald (show gPG 10 416 = some (.iaload) by decide +kernel) ).trans <| bd_cg fun x3 hx3 =>
  (l_aload_n (show gPG 10 417 = some (.aload_n 0) by decide +kernel) rfl h0).trans <|
  (l_iload_n (show gPG 10 418 = some (.iload_n 3) by decide +kernel) rfl).trans <|
  (l_iconst (show gPG 10 419 = some (.iconst 4) by decide +kernel) (c := 4) (by decide +kernel)).trans <|
  (l_iadd (show gPG 10 420 = some (.iadd) by decide +kernel) ).trans <|
  (l_iald (show gPG 10 421 = some (.iaload) by decide +kernel) ).trans <| bd_cg fun x4 hx4 =>
  l_callV (u := 1) (v := (.ref a1)) (as := [.int x1, .int x2, .int x3, .int x4]) (show gPG 10 422 = some (jinvI 1 36) by decide +kernel) (by decide) (cc := 25) (na := 5) (kd := 12) (q4 := 0) (z := 10) (rest := []) (by decide +kernel) (by decide +kernel)  rfl (show (5 : Nat) ≤ 5 by decide) rfl cs0 (by decide +kernel) (cai (cai (cai (cai (cav jr_ref ca0)))))
theorem b10_425 (d : Nat) (μ : jM) (r0 : Value) (a1 : Nat) (a2 : Nat) (i3 : Int32) (s0 : Int32) (h0 : jisref r0 = true) : jR (d + 1) 10 425 [r0, (.ref a1), (.ref a2), .int i3] [.int s0] μ = (jaI μ r0 (i3 + 1)).bind fun x1 => (jaI μ r0 (i3 + 2)).bind fun x2 => (jaI μ r0 (i3 + 3)).bind fun x3 => (jaI μ r0 (i3 + 4)).bind fun x4 => (if jrecv μ 13 ((.ref a2)) = true then (jC d 203 [(.ref a2), .int x1, .int x2, .int x3, .int x4] μ).bind fun p5 => jR (d + 1) 10 449 [r0, (.ref a1), (.ref a2), .int i3] (p5.1.toList ++ [.int s0]) p5.2 else none) :=
  (l_aload_n (show gPG 10 425 = some (.aload_n 2) by decide +kernel) rfl jr_ref).trans <|
  (l_aload_n (show gPG 10 426 = some (.aload_n 0) by decide +kernel) rfl h0).trans <|
  (l_iload_n (show gPG 10 427 = some (.iload_n 3) by decide +kernel) rfl).trans <|
  (l_iconst (show gPG 10 428 = some (.iconst 1) by decide +kernel) (c := 1) (by decide +kernel)).trans <|
  (l_iadd (show gPG 10 429 = some (.iadd) by decide +kernel) ).trans <|
  (l_iald (show gPG 10 430 = some (.iaload) by decide +kernel) ).trans <| bd_cg fun x1 hx1 =>
  (l_aload_n (show gPG 10 431 = some (.aload_n 0) by decide +kernel) rfl h0).trans <|
  (l_iload_n (show gPG 10 432 = some (.iload_n 3) by decide +kernel) rfl).trans <|
  (l_iconst (show gPG 10 433 = some (.iconst 2) by decide +kernel) (c := 2) (by decide +kernel)).trans <|
  (l_iadd (show gPG 10 434 = some (.iadd) by decide +kernel) ).trans <|
  (l_iald (show gPG 10 435 = some (.iaload) by decide +kernel) ).trans <| bd_cg fun x2 hx2 =>
  (l_aload_n (show gPG 10 436 = some (.aload_n 0) by decide +kernel) rfl h0).trans <|
  (l_iload_n (show gPG 10 437 = some (.iload_n 3) by decide +kernel) rfl).trans <|
  (l_iconst (show gPG 10 438 = some (.iconst 3) by decide +kernel) (c := 3) (by decide +kernel)).trans <|
  (l_iadd (show gPG 10 439 = some (.iadd) by decide +kernel) ).trans <|
  (l_iald (show gPG 10 440 = some (.iaload) by decide +kernel) ).trans <| bd_cg fun x3 hx3 =>
  (l_aload_n (show gPG 10 441 = some (.aload_n 0) by decide +kernel) rfl h0).trans <|
  (l_iload_n (show gPG 10 442 = some (.iload_n 3) by decide +kernel) rfl).trans <|
  (l_iconst (show gPG 10 443 = some (.iconst 4) by decide +kernel) (c := 4) (by decide +kernel)).trans <|
  (l_iadd (show gPG 10 444 = some (.iadd) by decide +kernel) ).trans <|
  (l_iald (show gPG 10 445 = some (.iaload) by decide +kernel) ).trans <| bd_cg fun x4 hx4 =>
  l_callV (u := 1) (v := (.ref a2)) (as := [.int x1, .int x2, .int x3, .int x4]) (show gPG 10 446 = some (jinvI 1 40) by decide +kernel) (by decide) (cc := 203) (na := 5) (kd := 13) (q4 := 0) (z := 10) (rest := [.int s0]) (by decide +kernel) (by decide +kernel)  rfl (show (5 : Nat) ≤ 6 by decide) rfl (csi cs0) (by decide +kernel) (cai (cai (cai (cai (cav jr_ref ca0)))))
theorem b10_449 (d : Nat) (μ : jM) (r0 : Value) (a1 : Nat) (a2 : Nat) (i3 : Int32) (s0 : Int32) (s1 : Int32) (h0 : jisref r0 = true) : jR d 10 449 [r0, (.ref a1), (.ref a2), .int i3] [.int s1, .int s0] μ = (if s0 = s1 then jR d 10 1254 [r0, (.ref a1), (.ref a2), .int i3] [] μ else some (some (.int 0), μ)) :=
  (l_cmp (show gPG 10 449 = some (.if_icmp .eq 805) by decide +kernel) (t := 1254) (by decide +kernel)).trans <| jm_eq.trans <| ite_cg (
  rfl) (
  (l_iconst (show gPG 10 452 = some (.iconst 0) by decide +kernel) (c := 0) (by decide +kernel)).trans <|
  l_iretK (show gPG 10 453 = some (.ireturn) by decide +kernel) (by decide +kernel))
theorem b10_454 (d : Nat) (μ : jM) (r0 : Value) (a1 : Nat) (a2 : Nat) (i3 : Int32) (h0 : jisref r0 = true) : jR (d + 1) 10 454 [r0, (.ref a1), (.ref a2), .int i3] [] μ = (jaI μ r0 (i3 + 1)).bind fun x1 => (jaI μ r0 (i3 + 2)).bind fun x2 => (jaI μ r0 (i3 + 3)).bind fun x3 => (jaI μ r0 (i3 + 4)).bind fun x4 => (if jrecv μ 12 ((.ref a1)) = true then (jC d 26 [(.ref a1), .int x1, .int x2, .int x3, .int x4] μ).bind fun p5 => jR (d + 1) 10 478 [r0, (.ref a1), (.ref a2), .int i3] (p5.1.toList ++ []) p5.2 else none) :=
  (l_aload_n (show gPG 10 454 = some (.aload_n 1) by decide +kernel) rfl jr_ref).trans <|
  (l_aload_n (show gPG 10 455 = some (.aload_n 0) by decide +kernel) rfl h0).trans <|
  (l_iload_n (show gPG 10 456 = some (.iload_n 3) by decide +kernel) rfl).trans <|
  (l_iconst (show gPG 10 457 = some (.iconst 1) by decide +kernel) (c := 1) (by decide +kernel)).trans <|
  (l_iadd (show gPG 10 458 = some (.iadd) by decide +kernel) ).trans <|
  (l_iald (show gPG 10 459 = some (.iaload) by decide +kernel) ).trans <| bd_cg fun x1 hx1 =>
  (l_aload_n (show gPG 10 460 = some (.aload_n 0) by decide +kernel) rfl h0).trans <|
  (l_iload_n (show gPG 10 461 = some (.iload_n 3) by decide +kernel) rfl).trans <|
  (l_iconst (show gPG 10 462 = some (.iconst 2) by decide +kernel) (c := 2) (by decide +kernel)).trans <|
  (l_iadd (show gPG 10 463 = some (.iadd) by decide +kernel) ).trans <|
  (l_iald (show gPG 10 464 = some (.iaload) by decide +kernel) ).trans <| bd_cg fun x2 hx2 =>
  (l_aload_n (show gPG 10 465 = some (.aload_n 0) by decide +kernel) rfl h0).trans <|
  (l_iload_n (show gPG 10 466 = some (.iload_n 3) by decide +kernel) rfl).trans <|
  (l_iconst (show gPG 10 467 = some (.iconst 3) by decide +kernel) (c := 3) (by decide +kernel)).trans <|
  (l_iadd (show gPG 10 468 = some (.iadd) by decide +kernel) ).trans <|
  (l_iald (show gPG 10 469 = some (.iaload) by decide +kernel) ).trans <| bd_cg fun x3 hx3 =>
  (l_aload_n (show gPG 10 470 = some (.aload_n 0) by decide +kernel) rfl h0).trans <|
  (l_iload_n (show gPG 10 471 = some (.iload_n 3) by decide +kernel) rfl).trans <|
  (l_iconst (show gPG 10 472 = some (.iconst 4) by decide +kernel) (c := 4) (by decide +kernel)).trans <|
  (l_iadd (show gPG 10 473 = some (.iadd) by decide +kernel) ).trans <|
  (l_iald (show gPG 10 474 = some (.iaload) by decide +kernel) ).trans <| bd_cg fun x4 hx4 =>
  l_callV (u := 1) (v := (.ref a1)) (as := [.int x1, .int x2, .int x3, .int x4]) (show gPG 10 475 = some (jinvI 1 41) by decide +kernel) (by decide) (cc := 26) (na := 5) (kd := 12) (q4 := 0) (z := 10) (rest := []) (by decide +kernel) (by decide +kernel)  rfl (show (5 : Nat) ≤ 5 by decide) rfl cs0 (by decide +kernel) (cai (cai (cai (cai (cav jr_ref ca0)))))
theorem b10_478 (d : Nat) (μ : jM) (r0 : Value) (a1 : Nat) (a2 : Nat) (i3 : Int32) (s0 : Int32) (h0 : jisref r0 = true) : jR (d + 1) 10 478 [r0, (.ref a1), (.ref a2), .int i3] [.int s0] μ = (jaI μ r0 (i3 + 1)).bind fun x1 => (jaI μ r0 (i3 + 2)).bind fun x2 => (jaI μ r0 (i3 + 3)).bind fun x3 => (jaI μ r0 (i3 + 4)).bind fun x4 => (if jrecv μ 13 ((.ref a2)) = true then (jC d 204 [(.ref a2), .int x1, .int x2, .int x3, .int x4] μ).bind fun p5 => jR (d + 1) 10 502 [r0, (.ref a1), (.ref a2), .int i3] (p5.1.toList ++ [.int s0]) p5.2 else none) :=
  (l_aload_n (show gPG 10 478 = some (.aload_n 2) by decide +kernel) rfl jr_ref).trans <|
  (l_aload_n (show gPG 10 479 = some (.aload_n 0) by decide +kernel) rfl h0).trans <|
  (l_iload_n (show gPG 10 480 = some (.iload_n 3) by decide +kernel) rfl).trans <|
  (l_iconst (show gPG 10 481 = some (.iconst 1) by decide +kernel) (c := 1) (by decide +kernel)).trans <|
  (l_iadd (show gPG 10 482 = some (.iadd) by decide +kernel) ).trans <|
  (l_iald (show gPG 10 483 = some (.iaload) by decide +kernel) ).trans <| bd_cg fun x1 hx1 =>
  (l_aload_n (show gPG 10 484 = some (.aload_n 0) by decide +kernel) rfl h0).trans <|
  (l_iload_n (show gPG 10 485 = some (.iload_n 3) by decide +kernel) rfl).trans <|
  (l_iconst (show gPG 10 486 = some (.iconst 2) by decide +kernel) (c := 2) (by decide +kernel)).trans <|
  (l_iadd (show gPG 10 487 = some (.iadd) by decide +kernel) ).trans <|
  (l_iald (show gPG 10 488 = some (.iaload) by decide +kernel) ).trans <| bd_cg fun x2 hx2 =>
  (l_aload_n (show gPG 10 489 = some (.aload_n 0) by decide +kernel) rfl h0).trans <|
  (l_iload_n (show gPG 10 490 = some (.iload_n 3) by decide +kernel) rfl).trans <|
  (l_iconst (show gPG 10 491 = some (.iconst 3) by decide +kernel) (c := 3) (by decide +kernel)).trans <|
  (l_iadd (show gPG 10 492 = some (.iadd) by decide +kernel) ).trans <|
  (l_iald (show gPG 10 493 = some (.iaload) by decide +kernel) ).trans <| bd_cg fun x3 hx3 =>
  (l_aload_n (show gPG 10 494 = some (.aload_n 0) by decide +kernel) rfl h0).trans <|
  (l_iload_n (show gPG 10 495 = some (.iload_n 3) by decide +kernel) rfl).trans <|
  (l_iconst (show gPG 10 496 = some (.iconst 4) by decide +kernel) (c := 4) (by decide +kernel)).trans <|
  (l_iadd (show gPG 10 497 = some (.iadd) by decide +kernel) ).trans <|
  (l_iald (show gPG 10 498 = some (.iaload) by decide +kernel) ).trans <| bd_cg fun x4 hx4 =>
  l_callV (u := 1) (v := (.ref a2)) (as := [.int x1, .int x2, .int x3, .int x4]) (show gPG 10 499 = some (jinvI 1 44) by decide +kernel) (by decide) (cc := 204) (na := 5) (kd := 13) (q4 := 0) (z := 10) (rest := [.int s0]) (by decide +kernel) (by decide +kernel)  rfl (show (5 : Nat) ≤ 6 by decide) rfl (csi cs0) (by decide +kernel) (cai (cai (cai (cai (cav jr_ref ca0)))))
theorem b10_502 (d : Nat) (μ : jM) (r0 : Value) (a1 : Nat) (a2 : Nat) (i3 : Int32) (s0 : Int32) (s1 : Int32) (h0 : jisref r0 = true) : jR d 10 502 [r0, (.ref a1), (.ref a2), .int i3] [.int s1, .int s0] μ = (if s0 = s1 then jR d 10 1254 [r0, (.ref a1), (.ref a2), .int i3] [] μ else some (some (.int 0), μ)) :=
  (l_cmp (show gPG 10 502 = some (.if_icmp .eq 752) by decide +kernel) (t := 1254) (by decide +kernel)).trans <| jm_eq.trans <| ite_cg (
  rfl) (
  (l_iconst (show gPG 10 505 = some (.iconst 0) by decide +kernel) (c := 0) (by decide +kernel)).trans <|
  l_iretK (show gPG 10 506 = some (.ireturn) by decide +kernel) (by decide +kernel))
theorem b10_507 (d : Nat) (μ : jM) (r0 : Value) (a1 : Nat) (a2 : Nat) (i3 : Int32) (h0 : jisref r0 = true) : jR (d + 1) 10 507 [r0, (.ref a1), (.ref a2), .int i3] [] μ = (jaI μ r0 (i3 + 1)).bind fun x1 => (jaI μ r0 (i3 + 2)).bind fun x2 => (if jrecv μ 12 ((.ref a1)) = true then (jC d 27 [(.ref a1), .int x1, .int x2] μ).bind fun p3 => jR (d + 1) 10 521 [r0, (.ref a1), (.ref a2), .int i3] (p3.1.toList ++ []) p3.2 else none) :=
  (l_aload_n (show gPG 10 507 = some (.aload_n 1) by decide +kernel) rfl jr_ref).trans <|
  (l_aload_n (show gPG 10 508 = some (.aload_n 0) by decide +kernel) rfl h0).trans <|
  (l_iload_n (show gPG 10 509 = some (.iload_n 3) by decide +kernel) rfl).trans <|
  (l_iconst (show gPG 10 510 = some (.iconst 1) by decide +kernel) (c := 1) (by decide +kernel)).trans <|
  (l_iadd (show gPG 10 511 = some (.iadd) by decide +kernel) ).trans <|
  (l_iald (show gPG 10 512 = some (.iaload) by decide +kernel) ).trans <| bd_cg fun x1 hx1 =>
  (l_aload_n (show gPG 10 513 = some (.aload_n 0) by decide +kernel) rfl h0).trans <|
  (l_iload_n (show gPG 10 514 = some (.iload_n 3) by decide +kernel) rfl).trans <|
  (l_iconst (show gPG 10 515 = some (.iconst 2) by decide +kernel) (c := 2) (by decide +kernel)).trans <|
  (l_iadd (show gPG 10 516 = some (.iadd) by decide +kernel) ).trans <|
  (l_iald (show gPG 10 517 = some (.iaload) by decide +kernel) ).trans <| bd_cg fun x2 hx2 =>
  l_callV (u := 1) (v := (.ref a1)) (as := [.int x1, .int x2]) (show gPG 10 518 = some (jinvI 1 45) by decide +kernel) (by decide) (cc := 27) (na := 3) (kd := 12) (q4 := 0) (z := 10) (rest := []) (by decide +kernel) (by decide +kernel)  rfl (show (3 : Nat) ≤ 3 by decide) rfl cs0 (by decide +kernel) (cai (cai (cav jr_ref ca0)))
theorem b10_521 (d : Nat) (μ : jM) (r0 : Value) (a1 : Nat) (a2 : Nat) (i3 : Int32) (s0 : Int32) (h0 : jisref r0 = true) : jR (d + 1) 10 521 [r0, (.ref a1), (.ref a2), .int i3] [.int s0] μ = (jaI μ r0 (i3 + 1)).bind fun x1 => (jaI μ r0 (i3 + 2)).bind fun x2 => (if jrecv μ 13 ((.ref a2)) = true then (jC d 206 [(.ref a2), .int x1, .int x2] μ).bind fun p3 => jR (d + 1) 10 535 [r0, (.ref a1), (.ref a2), .int i3] (p3.1.toList ++ [.int s0]) p3.2 else none) :=
  (l_aload_n (show gPG 10 521 = some (.aload_n 2) by decide +kernel) rfl jr_ref).trans <|
  (l_aload_n (show gPG 10 522 = some (.aload_n 0) by decide +kernel) rfl h0).trans <|
  (l_iload_n (show gPG 10 523 = some (.iload_n 3) by decide +kernel) rfl).trans <|
  (l_iconst (show gPG 10 524 = some (.iconst 1) by decide +kernel) (c := 1) (by decide +kernel)).trans <|
  (l_iadd (show gPG 10 525 = some (.iadd) by decide +kernel) ).trans <|
  (l_iald (show gPG 10 526 = some (.iaload) by decide +kernel) ).trans <| bd_cg fun x1 hx1 =>
  (l_aload_n (show gPG 10 527 = some (.aload_n 0) by decide +kernel) rfl h0).trans <|
  (l_iload_n (show gPG 10 528 = some (.iload_n 3) by decide +kernel) rfl).trans <|
  (l_iconst (show gPG 10 529 = some (.iconst 2) by decide +kernel) (c := 2) (by decide +kernel)).trans <|
  (l_iadd (show gPG 10 530 = some (.iadd) by decide +kernel) ).trans <|
  (l_iald (show gPG 10 531 = some (.iaload) by decide +kernel) ).trans <| bd_cg fun x2 hx2 =>
  l_callV (u := 1) (v := (.ref a2)) (as := [.int x1, .int x2]) (show gPG 10 532 = some (jinvI 1 48) by decide +kernel) (by decide) (cc := 206) (na := 3) (kd := 13) (q4 := 0) (z := 10) (rest := [.int s0]) (by decide +kernel) (by decide +kernel)  rfl (show (3 : Nat) ≤ 4 by decide) rfl (csi cs0) (by decide +kernel) (cai (cai (cav jr_ref ca0)))
theorem b10_535 (d : Nat) (μ : jM) (r0 : Value) (a1 : Nat) (a2 : Nat) (i3 : Int32) (s0 : Int32) (s1 : Int32) (h0 : jisref r0 = true) : jR d 10 535 [r0, (.ref a1), (.ref a2), .int i3] [.int s1, .int s0] μ = (if s0 = s1 then jR d 10 1254 [r0, (.ref a1), (.ref a2), .int i3] [] μ else some (some (.int 0), μ)) :=
  (l_cmp (show gPG 10 535 = some (.if_icmp .eq 719) by decide +kernel) (t := 1254) (by decide +kernel)).trans <| jm_eq.trans <| ite_cg (
  rfl) (
  (l_iconst (show gPG 10 538 = some (.iconst 0) by decide +kernel) (c := 0) (by decide +kernel)).trans <|
  l_iretK (show gPG 10 539 = some (.ireturn) by decide +kernel) (by decide +kernel))
theorem b10_540 (d : Nat) (μ : jM) (r0 : Value) (a1 : Nat) (a2 : Nat) (i3 : Int32) (h0 : jisref r0 = true) : jR (d + 1) 10 540 [r0, (.ref a1), (.ref a2), .int i3] [] μ = (jaI μ r0 (i3 + 1)).bind fun x1 => (jaI μ r0 (i3 + 2)).bind fun x2 => (jaI μ r0 (i3 + 3)).bind fun x3 => (jaI μ r0 (i3 + 4)).bind fun x4 => (if jrecv μ 12 ((.ref a1)) = true then (jC d 28 [(.ref a1), .int x1, .int x2, .int x3, .int x4] μ).bind fun p5 => jR (d + 1) 10 564 [r0, (.ref a1), (.ref a2), .int i3] (p5.1.toList ++ []) p5.2 else none) :=
  (l_aload_n (show gPG 10 540 = some (.aload_n 1) by decide +kernel) rfl jr_ref).trans <|
  (l_aload_n (show gPG 10 541 = some (.aload_n 0) by decide +kernel) rfl h0).trans <|
  (l_iload_n (show gPG 10 542 = some (.iload_n 3) by decide +kernel) rfl).trans <|
  (l_iconst (show gPG 10 543 = some (.iconst 1) by decide +kernel) (c := 1) (by decide +kernel)).trans <|
  (l_iadd (show gPG 10 544 = some (.iadd) by decide +kernel) ).trans <|
  (l_iald (show gPG 10 545 = some (.iaload) by decide +kernel) ).trans <| bd_cg fun x1 hx1 =>
  (l_aload_n (show gPG 10 546 = some (.aload_n 0) by decide +kernel) rfl h0).trans <|
  (l_iload_n (show gPG 10 547 = some (.iload_n 3) by decide +kernel) rfl).trans <|
  (l_iconst (show gPG 10 548 = some (.iconst 2) by decide +kernel) (c := 2) (by decide +kernel)).trans <|
  (l_iadd (show gPG 10 549 = some (.iadd) by decide +kernel) ).trans <|
  (l_iald (show gPG 10 550 = some (.iaload) by decide +kernel) ).trans <| bd_cg fun x2 hx2 =>
  (l_aload_n (show gPG 10 551 = some (.aload_n 0) by decide +kernel) rfl h0).trans <|
  (l_iload_n (show gPG 10 552 = some (.iload_n 3) by decide +kernel) rfl).trans <|
  (l_iconst (show gPG 10 553 = some (.iconst 3) by decide +kernel) (c := 3) (by decide +kernel)).trans <|
  (l_iadd (show gPG 10 554 = some (.iadd) by decide +kernel) ).trans <|
  (l_iald (show gPG 10 555 = some (.iaload) by decide +kernel) ).trans <| bd_cg fun x3 hx3 =>
  (l_aload_n (show gPG 10 556 = some (.aload_n 0) by decide +kernel) rfl h0).trans <|
  (l_iload_n (show gPG 10 557 = some (.iload_n 3) by decide +kernel) rfl).trans <|
  (l_iconst (show gPG 10 558 = some (.iconst 4) by decide +kernel) (c := 4) (by decide +kernel)).trans <|
  (l_iadd (show gPG 10 559 = some (.iadd) by decide +kernel) ).trans <|
  (l_iald (show gPG 10 560 = some (.iaload) by decide +kernel) ).trans <| bd_cg fun x4 hx4 =>
  l_callV (u := 1) (v := (.ref a1)) (as := [.int x1, .int x2, .int x3, .int x4]) (show gPG 10 561 = some (jinvI 1 49) by decide +kernel) (by decide) (cc := 28) (na := 5) (kd := 12) (q4 := 0) (z := 10) (rest := []) (by decide +kernel) (by decide +kernel)  rfl (show (5 : Nat) ≤ 5 by decide) rfl cs0 (by decide +kernel) (cai (cai (cai (cai (cav jr_ref ca0)))))
theorem b10_564 (d : Nat) (μ : jM) (r0 : Value) (a1 : Nat) (a2 : Nat) (i3 : Int32) (s0 : Int32) (h0 : jisref r0 = true) : jR (d + 1) 10 564 [r0, (.ref a1), (.ref a2), .int i3] [.int s0] μ = (jaI μ r0 (i3 + 1)).bind fun x1 => (jaI μ r0 (i3 + 2)).bind fun x2 => (jaI μ r0 (i3 + 3)).bind fun x3 => (jaI μ r0 (i3 + 4)).bind fun x4 => (if jrecv μ 13 ((.ref a2)) = true then (jC d 208 [(.ref a2), .int x1, .int x2, .int x3, .int x4] μ).bind fun p5 => jR (d + 1) 10 588 [r0, (.ref a1), (.ref a2), .int i3] (p5.1.toList ++ [.int s0]) p5.2 else none) :=
  (l_aload_n (show gPG 10 564 = some (.aload_n 2) by decide +kernel) rfl jr_ref).trans <|
  (l_aload_n (show gPG 10 565 = some (.aload_n 0) by decide +kernel) rfl h0).trans <|
  (l_iload_n (show gPG 10 566 = some (.iload_n 3) by decide +kernel) rfl).trans <|
  (l_iconst (show gPG 10 567 = some (.iconst 1) by decide +kernel) (c := 1) (by decide +kernel)).trans <|
  (l_iadd (show gPG 10 568 = some (.iadd) by decide +kernel) ).trans <|
  (l_iald (show gPG 10 569 = some (.iaload) by decide +kernel) ).trans <| bd_cg fun x1 hx1 =>
  (l_aload_n (show gPG 10 570 = some (.aload_n 0) by decide +kernel) rfl h0).trans <|
  (l_iload_n (show gPG 10 571 = some (.iload_n 3) by decide +kernel) rfl).trans <|
  (l_iconst (show gPG 10 572 = some (.iconst 2) by decide +kernel) (c := 2) (by decide +kernel)).trans <|
  (l_iadd (show gPG 10 573 = some (.iadd) by decide +kernel) ).trans <|
  (l_iald (show gPG 10 574 = some (.iaload) by decide +kernel) ).trans <| bd_cg fun x2 hx2 =>
  (l_aload_n (show gPG 10 575 = some (.aload_n 0) by decide +kernel) rfl h0).trans <|
  (l_iload_n (show gPG 10 576 = some (.iload_n 3) by decide +kernel) rfl).trans <|
  (l_iconst (show gPG 10 577 = some (.iconst 3) by decide +kernel) (c := 3) (by decide +kernel)).trans <|
  (l_iadd (show gPG 10 578 = some (.iadd) by decide +kernel) ).trans <|
  (l_iald (show gPG 10 579 = some (.iaload) by decide +kernel) ).trans <| bd_cg fun x3 hx3 =>
  (l_aload_n (show gPG 10 580 = some (.aload_n 0) by decide +kernel) rfl h0).trans <|
  (l_iload_n (show gPG 10 581 = some (.iload_n 3) by decide +kernel) rfl).trans <|
  (l_iconst (show gPG 10 582 = some (.iconst 4) by decide +kernel) (c := 4) (by decide +kernel)).trans <|
  (l_iadd (show gPG 10 583 = some (.iadd) by decide +kernel) ).trans <|
  (l_iald (show gPG 10 584 = some (.iaload) by decide +kernel) ).trans <| bd_cg fun x4 hx4 =>
  l_callV (u := 1) (v := (.ref a2)) (as := [.int x1, .int x2, .int x3, .int x4]) (show gPG 10 585 = some (jinvI 1 52) by decide +kernel) (by decide) (cc := 208) (na := 5) (kd := 13) (q4 := 0) (z := 10) (rest := [.int s0]) (by decide +kernel) (by decide +kernel)  rfl (show (5 : Nat) ≤ 6 by decide) rfl (csi cs0) (by decide +kernel) (cai (cai (cai (cai (cav jr_ref ca0)))))
theorem b10_588 (d : Nat) (μ : jM) (r0 : Value) (a1 : Nat) (a2 : Nat) (i3 : Int32) (s0 : Int32) (s1 : Int32) (h0 : jisref r0 = true) : jR d 10 588 [r0, (.ref a1), (.ref a2), .int i3] [.int s1, .int s0] μ = (if s0 = s1 then jR d 10 1254 [r0, (.ref a1), (.ref a2), .int i3] [] μ else some (some (.int 0), μ)) :=
  (l_cmp (show gPG 10 588 = some (.if_icmp .eq 666) by decide +kernel) (t := 1254) (by decide +kernel)).trans <| jm_eq.trans <| ite_cg (
  rfl) (
  (l_iconst (show gPG 10 591 = some (.iconst 0) by decide +kernel) (c := 0) (by decide +kernel)).trans <|
  l_iretK (show gPG 10 592 = some (.ireturn) by decide +kernel) (by decide +kernel))
theorem b10_593 (d : Nat) (μ : jM) (r0 : Value) (a1 : Nat) (a2 : Nat) (i3 : Int32) (h0 : jisref r0 = true) : jR (d + 1) 10 593 [r0, (.ref a1), (.ref a2), .int i3] [] μ = (jaI μ r0 (i3 + 1)).bind fun x1 => (jaI μ r0 (i3 + 2)).bind fun x2 => (jaI μ r0 (i3 + 3)).bind fun x3 => (if jrecv μ 12 ((.ref a1)) = true then (jC d 29 [(.ref a1), .int x1, .int x2, .int x3] μ).bind fun p4 => jR (d + 1) 10 612 [r0, (.ref a1), (.ref a2), .int i3] (p4.1.toList ++ []) p4.2 else none) :=
  (l_aload_n (show gPG 10 593 = some (.aload_n 1) by decide +kernel) rfl jr_ref).trans <|
  (l_aload_n (show gPG 10 594 = some (.aload_n 0) by decide +kernel) rfl h0).trans <|
  (l_iload_n (show gPG 10 595 = some (.iload_n 3) by decide +kernel) rfl).trans <|
  (l_iconst (show gPG 10 596 = some (.iconst 1) by decide +kernel) (c := 1) (by decide +kernel)).trans <|
  (l_iadd (show gPG 10 597 = some (.iadd) by decide +kernel) ).trans <|
  (l_iald (show gPG 10 598 = some (.iaload) by decide +kernel) ).trans <| bd_cg fun x1 hx1 =>
  (l_aload_n (show gPG 10 599 = some (.aload_n 0) by decide +kernel) rfl h0).trans <|
  (l_iload_n (show gPG 10 600 = some (.iload_n 3) by decide +kernel) rfl).trans <|
  (l_iconst (show gPG 10 601 = some (.iconst 2) by decide +kernel) (c := 2) (by decide +kernel)).trans <|
  (l_iadd (show gPG 10 602 = some (.iadd) by decide +kernel) ).trans <|
  (l_iald (show gPG 10 603 = some (.iaload) by decide +kernel) ).trans <| bd_cg fun x2 hx2 =>
  (l_aload_n (show gPG 10 604 = some (.aload_n 0) by decide +kernel) rfl h0).trans <|
  (l_iload_n (show gPG 10 605 = some (.iload_n 3) by decide +kernel) rfl).trans <|
  (l_iconst (show gPG 10 606 = some (.iconst 3) by decide +kernel) (c := 3) (by decide +kernel)).trans <|
  (l_iadd (show gPG 10 607 = some (.iadd) by decide +kernel) ).trans <|
  (l_iald (show gPG 10 608 = some (.iaload) by decide +kernel) ).trans <| bd_cg fun x3 hx3 =>
  l_callV (u := 1) (v := (.ref a1)) (as := [.int x1, .int x2, .int x3]) (show gPG 10 609 = some (jinvI 1 53) by decide +kernel) (by decide) (cc := 29) (na := 4) (kd := 12) (q4 := 0) (z := 10) (rest := []) (by decide +kernel) (by decide +kernel)  rfl (show (4 : Nat) ≤ 4 by decide) rfl cs0 (by decide +kernel) (cai (cai (cai (cav jr_ref ca0))))
theorem b10_612 (d : Nat) (μ : jM) (r0 : Value) (a1 : Nat) (a2 : Nat) (i3 : Int32) (s0 : Int64) (h0 : jisref r0 = true) : jR (d + 1) 10 612 [r0, (.ref a1), (.ref a2), .int i3] [.long s0] μ = (jaI μ r0 (i3 + 1)).bind fun x1 => (jaI μ r0 (i3 + 2)).bind fun x2 => (jaI μ r0 (i3 + 3)).bind fun x3 => (if jrecv μ 13 ((.ref a2)) = true then (jC d 218 [(.ref a2), .int x1, .int x2, .int x3] μ).bind fun p4 => jR (d + 1) 10 631 [r0, (.ref a1), (.ref a2), .int i3] (p4.1.toList ++ [.long s0]) p4.2 else none) :=
  (l_aload_n (show gPG 10 612 = some (.aload_n 2) by decide +kernel) rfl jr_ref).trans <|
  (l_aload_n (show gPG 10 613 = some (.aload_n 0) by decide +kernel) rfl h0).trans <|
  (l_iload_n (show gPG 10 614 = some (.iload_n 3) by decide +kernel) rfl).trans <|
  (l_iconst (show gPG 10 615 = some (.iconst 1) by decide +kernel) (c := 1) (by decide +kernel)).trans <|
  (l_iadd (show gPG 10 616 = some (.iadd) by decide +kernel) ).trans <|
  (l_iald (show gPG 10 617 = some (.iaload) by decide +kernel) ).trans <| bd_cg fun x1 hx1 =>
  (l_aload_n (show gPG 10 618 = some (.aload_n 0) by decide +kernel) rfl h0).trans <|
  (l_iload_n (show gPG 10 619 = some (.iload_n 3) by decide +kernel) rfl).trans <|
  (l_iconst (show gPG 10 620 = some (.iconst 2) by decide +kernel) (c := 2) (by decide +kernel)).trans <|
  (l_iadd (show gPG 10 621 = some (.iadd) by decide +kernel) ).trans <|
  (l_iald (show gPG 10 622 = some (.iaload) by decide +kernel) ).trans <| bd_cg fun x2 hx2 =>
  (l_aload_n (show gPG 10 623 = some (.aload_n 0) by decide +kernel) rfl h0).trans <|
  (l_iload_n (show gPG 10 624 = some (.iload_n 3) by decide +kernel) rfl).trans <|
  (l_iconst (show gPG 10 625 = some (.iconst 3) by decide +kernel) (c := 3) (by decide +kernel)).trans <|
  (l_iadd (show gPG 10 626 = some (.iadd) by decide +kernel) ).trans <|
  (l_iald (show gPG 10 627 = some (.iaload) by decide +kernel) ).trans <| bd_cg fun x3 hx3 =>
  l_callV (u := 1) (v := (.ref a2)) (as := [.int x1, .int x2, .int x3]) (show gPG 10 628 = some (jinvI 1 57) by decide +kernel) (by decide) (cc := 218) (na := 4) (kd := 13) (q4 := 0) (z := 10) (rest := [.long s0]) (by decide +kernel) (by decide +kernel)  rfl (show (4 : Nat) ≤ 5 by decide) rfl (csl cs0) (by decide +kernel) (cai (cai (cai (cav jr_ref ca0))))
theorem b10_631 (d : Nat) (μ : jM) (r0 : Value) (a1 : Nat) (a2 : Nat) (i3 : Int32) (s0 : Int64) (s1 : Int64) (h0 : jisref r0 = true) : jR d 10 631 [r0, (.ref a1), (.ref a2), .int i3] [.long s1, .long s0] μ = (if (lg_cmp s0 s1) = 0 then jR d 10 1254 [r0, (.ref a1), (.ref a2), .int i3] [] μ else some (some (.int 0), μ)) :=
  (l_lcmp (show gPG 10 631 = some (.lcmp) by decide +kernel) ).trans <|
  (l_cmp0 (show gPG 10 632 = some (.ifCond .eq 622) by decide +kernel) (t := 1254) (by decide +kernel)).trans <| jm_eq.trans <| ite_cg (
  rfl) (
  (l_iconst (show gPG 10 635 = some (.iconst 0) by decide +kernel) (c := 0) (by decide +kernel)).trans <|
  l_iretK (show gPG 10 636 = some (.ireturn) by decide +kernel) (by decide +kernel))
theorem b10_637 (d : Nat) (μ : jM) (r0 : Value) (a1 : Nat) (a2 : Nat) (i3 : Int32) (h0 : jisref r0 = true) : jR (d + 1) 10 637 [r0, (.ref a1), (.ref a2), .int i3] [] μ = (jaI μ r0 (i3 + 1)).bind fun x1 => (jaI μ r0 (i3 + 2)).bind fun x2 => (jaI μ r0 (i3 + 3)).bind fun x3 => (jaI μ r0 (i3 + 4)).bind fun x4 => (if jrecv μ 12 ((.ref a1)) = true then (jC d 30 [(.ref a1), .int x1, .int x2, .int x3, .int x4] μ).bind fun p5 => jR (d + 1) 10 661 [r0, (.ref a1), (.ref a2), .int i3] (p5.1.toList ++ []) p5.2 else none) :=
  (l_aload_n (show gPG 10 637 = some (.aload_n 1) by decide +kernel) rfl jr_ref).trans <|
  (l_aload_n (show gPG 10 638 = some (.aload_n 0) by decide +kernel) rfl h0).trans <|
  (l_iload_n (show gPG 10 639 = some (.iload_n 3) by decide +kernel) rfl).trans <|
  (l_iconst (show gPG 10 640 = some (.iconst 1) by decide +kernel) (c := 1) (by decide +kernel)).trans <|
  (l_iadd (show gPG 10 641 = some (.iadd) by decide +kernel) ).trans <|
  (l_iald (show gPG 10 642 = some (.iaload) by decide +kernel) ).trans <| bd_cg fun x1 hx1 =>
  (l_aload_n (show gPG 10 643 = some (.aload_n 0) by decide +kernel) rfl h0).trans <|
  (l_iload_n (show gPG 10 644 = some (.iload_n 3) by decide +kernel) rfl).trans <|
  (l_iconst (show gPG 10 645 = some (.iconst 2) by decide +kernel) (c := 2) (by decide +kernel)).trans <|
  (l_iadd (show gPG 10 646 = some (.iadd) by decide +kernel) ).trans <|
  (l_iald (show gPG 10 647 = some (.iaload) by decide +kernel) ).trans <| bd_cg fun x2 hx2 =>
  (l_aload_n (show gPG 10 648 = some (.aload_n 0) by decide +kernel) rfl h0).trans <|
  (l_iload_n (show gPG 10 649 = some (.iload_n 3) by decide +kernel) rfl).trans <|
  (l_iconst (show gPG 10 650 = some (.iconst 3) by decide +kernel) (c := 3) (by decide +kernel)).trans <|
  (l_iadd (show gPG 10 651 = some (.iadd) by decide +kernel) ).trans <|
  (l_iald (show gPG 10 652 = some (.iaload) by decide +kernel) ).trans <| bd_cg fun x3 hx3 =>
  (l_aload_n (show gPG 10 653 = some (.aload_n 0) by decide +kernel) rfl h0).trans <|
  (l_iload_n (show gPG 10 654 = some (.iload_n 3) by decide +kernel) rfl).trans <|
  (l_iconst (show gPG 10 655 = some (.iconst 4) by decide +kernel) (c := 4) (by decide +kernel)).trans <|
  (l_iadd (show gPG 10 656 = some (.iadd) by decide +kernel) ).trans <|
  (l_iald (show gPG 10 657 = some (.iaload) by decide +kernel) ).trans <| bd_cg fun x4 hx4 =>
  l_callV (u := 1) (v := (.ref a1)) (as := [.int x1, .int x2, .int x3, .int x4]) (show gPG 10 658 = some (jinvI 1 58) by decide +kernel) (by decide) (cc := 30) (na := 5) (kd := 12) (q4 := 0) (z := 10) (rest := []) (by decide +kernel) (by decide +kernel)  rfl (show (5 : Nat) ≤ 5 by decide) rfl cs0 (by decide +kernel) (cai (cai (cai (cai (cav jr_ref ca0)))))
theorem b10_661 (d : Nat) (μ : jM) (r0 : Value) (a1 : Nat) (a2 : Nat) (i3 : Int32) (s0 : Int32) (h0 : jisref r0 = true) : jR (d + 1) 10 661 [r0, (.ref a1), (.ref a2), .int i3] [.int s0] μ = (jaI μ r0 (i3 + 1)).bind fun x1 => (jaI μ r0 (i3 + 2)).bind fun x2 => (jaI μ r0 (i3 + 3)).bind fun x3 => (jaI μ r0 (i3 + 4)).bind fun x4 => (if jrecv μ 13 ((.ref a2)) = true then (jC d 219 [(.ref a2), .int x1, .int x2, .int x3, .int x4] μ).bind fun p5 => jR (d + 1) 10 685 [r0, (.ref a1), (.ref a2), .int i3] (p5.1.toList ++ [.int s0]) p5.2 else none) :=
  (l_aload_n (show gPG 10 661 = some (.aload_n 2) by decide +kernel) rfl jr_ref).trans <|
  (l_aload_n (show gPG 10 662 = some (.aload_n 0) by decide +kernel) rfl h0).trans <|
  (l_iload_n (show gPG 10 663 = some (.iload_n 3) by decide +kernel) rfl).trans <|
  (l_iconst (show gPG 10 664 = some (.iconst 1) by decide +kernel) (c := 1) (by decide +kernel)).trans <|
  (l_iadd (show gPG 10 665 = some (.iadd) by decide +kernel) ).trans <|
  (l_iald (show gPG 10 666 = some (.iaload) by decide +kernel) ).trans <| bd_cg fun x1 hx1 =>
  (l_aload_n (show gPG 10 667 = some (.aload_n 0) by decide +kernel) rfl h0).trans <|
  (l_iload_n (show gPG 10 668 = some (.iload_n 3) by decide +kernel) rfl).trans <|
  (l_iconst (show gPG 10 669 = some (.iconst 2) by decide +kernel) (c := 2) (by decide +kernel)).trans <|
  (l_iadd (show gPG 10 670 = some (.iadd) by decide +kernel) ).trans <|
  (l_iald (show gPG 10 671 = some (.iaload) by decide +kernel) ).trans <| bd_cg fun x2 hx2 =>
  (l_aload_n (show gPG 10 672 = some (.aload_n 0) by decide +kernel) rfl h0).trans <|
  (l_iload_n (show gPG 10 673 = some (.iload_n 3) by decide +kernel) rfl).trans <|
  (l_iconst (show gPG 10 674 = some (.iconst 3) by decide +kernel) (c := 3) (by decide +kernel)).trans <|
  (l_iadd (show gPG 10 675 = some (.iadd) by decide +kernel) ).trans <|
  (l_iald (show gPG 10 676 = some (.iaload) by decide +kernel) ).trans <| bd_cg fun x3 hx3 =>
  (l_aload_n (show gPG 10 677 = some (.aload_n 0) by decide +kernel) rfl h0).trans <|
  (l_iload_n (show gPG 10 678 = some (.iload_n 3) by decide +kernel) rfl).trans <|
  (l_iconst (show gPG 10 679 = some (.iconst 4) by decide +kernel) (c := 4) (by decide +kernel)).trans <|
  (l_iadd (show gPG 10 680 = some (.iadd) by decide +kernel) ).trans <|
  (l_iald (show gPG 10 681 = some (.iaload) by decide +kernel) ).trans <| bd_cg fun x4 hx4 =>
  l_callV (u := 1) (v := (.ref a2)) (as := [.int x1, .int x2, .int x3, .int x4]) (show gPG 10 682 = some (jinvI 1 61) by decide +kernel) (by decide) (cc := 219) (na := 5) (kd := 13) (q4 := 0) (z := 10) (rest := [.int s0]) (by decide +kernel) (by decide +kernel)  rfl (show (5 : Nat) ≤ 6 by decide) rfl (csi cs0) (by decide +kernel) (cai (cai (cai (cai (cav jr_ref ca0)))))
theorem b10_685 (d : Nat) (μ : jM) (r0 : Value) (a1 : Nat) (a2 : Nat) (i3 : Int32) (s0 : Int32) (s1 : Int32) (h0 : jisref r0 = true) : jR d 10 685 [r0, (.ref a1), (.ref a2), .int i3] [.int s1, .int s0] μ = (if s0 = s1 then jR d 10 1254 [r0, (.ref a1), (.ref a2), .int i3] [] μ else some (some (.int 0), μ)) :=
  (l_cmp (show gPG 10 685 = some (.if_icmp .eq 569) by decide +kernel) (t := 1254) (by decide +kernel)).trans <| jm_eq.trans <| ite_cg (
  rfl) (
  (l_iconst (show gPG 10 688 = some (.iconst 0) by decide +kernel) (c := 0) (by decide +kernel)).trans <|
  l_iretK (show gPG 10 689 = some (.ireturn) by decide +kernel) (by decide +kernel))
theorem b10_690 (d : Nat) (μ : jM) (r0 : Value) (a1 : Nat) (a2 : Nat) (i3 : Int32) (h0 : jisref r0 = true) : jR (d + 1) 10 690 [r0, (.ref a1), (.ref a2), .int i3] [] μ = (jaI μ r0 (i3 + 1)).bind fun x1 => (jaI μ r0 (i3 + 2)).bind fun x2 => (jaI μ r0 (i3 + 3)).bind fun x3 => (if jrecv μ 12 ((.ref a1)) = true then (jC d 31 [(.ref a1), .int x1, .int x2, .int x3] μ).bind fun p4 => jR (d + 1) 10 709 [r0, (.ref a1), (.ref a2), .int i3] (p4.1.toList ++ []) p4.2 else none) :=
  (l_aload_n (show gPG 10 690 = some (.aload_n 1) by decide +kernel) rfl jr_ref).trans <|
  (l_aload_n (show gPG 10 691 = some (.aload_n 0) by decide +kernel) rfl h0).trans <|
  (l_iload_n (show gPG 10 692 = some (.iload_n 3) by decide +kernel) rfl).trans <|
  (l_iconst (show gPG 10 693 = some (.iconst 1) by decide +kernel) (c := 1) (by decide +kernel)).trans <|
  (l_iadd (show gPG 10 694 = some (.iadd) by decide +kernel) ).trans <|
  (l_iald (show gPG 10 695 = some (.iaload) by decide +kernel) ).trans <| bd_cg fun x1 hx1 =>
  (l_aload_n (show gPG 10 696 = some (.aload_n 0) by decide +kernel) rfl h0).trans <|
  (l_iload_n (show gPG 10 697 = some (.iload_n 3) by decide +kernel) rfl).trans <|
  (l_iconst (show gPG 10 698 = some (.iconst 2) by decide +kernel) (c := 2) (by decide +kernel)).trans <|
  (l_iadd (show gPG 10 699 = some (.iadd) by decide +kernel) ).trans <|
  (l_iald (show gPG 10 700 = some (.iaload) by decide +kernel) ).trans <| bd_cg fun x2 hx2 =>
  (l_aload_n (show gPG 10 701 = some (.aload_n 0) by decide +kernel) rfl h0).trans <|
  (l_iload_n (show gPG 10 702 = some (.iload_n 3) by decide +kernel) rfl).trans <|
  (l_iconst (show gPG 10 703 = some (.iconst 3) by decide +kernel) (c := 3) (by decide +kernel)).trans <|
  (l_iadd (show gPG 10 704 = some (.iadd) by decide +kernel) ).trans <|
  (l_iald (show gPG 10 705 = some (.iaload) by decide +kernel) ).trans <| bd_cg fun x3 hx3 =>
  l_callV (u := 1) (v := (.ref a1)) (as := [.int x1, .int x2, .int x3]) (show gPG 10 706 = some (jinvI 1 62) by decide +kernel) (by decide) (cc := 31) (na := 4) (kd := 12) (q4 := 0) (z := 10) (rest := []) (by decide +kernel) (by decide +kernel)  rfl (show (4 : Nat) ≤ 4 by decide) rfl cs0 (by decide +kernel) (cai (cai (cai (cav jr_ref ca0))))
theorem b10_709 (d : Nat) (μ : jM) (r0 : Value) (a1 : Nat) (a2 : Nat) (i3 : Int32) (s0 : Int32) (h0 : jisref r0 = true) : jR (d + 1) 10 709 [r0, (.ref a1), (.ref a2), .int i3] [.int s0] μ = (jaI μ r0 (i3 + 1)).bind fun x1 => (jaI μ r0 (i3 + 2)).bind fun x2 => (jaI μ r0 (i3 + 3)).bind fun x3 => (if jrecv μ 13 ((.ref a2)) = true then (jC d 222 [(.ref a2), .int x1, .int x2, .int x3] μ).bind fun p4 => jR (d + 1) 10 728 [r0, (.ref a1), (.ref a2), .int i3] (p4.1.toList ++ [.int s0]) p4.2 else none) :=
  (l_aload_n (show gPG 10 709 = some (.aload_n 2) by decide +kernel) rfl jr_ref).trans <|
  (l_aload_n (show gPG 10 710 = some (.aload_n 0) by decide +kernel) rfl h0).trans <|
  (l_iload_n (show gPG 10 711 = some (.iload_n 3) by decide +kernel) rfl).trans <|
  (l_iconst (show gPG 10 712 = some (.iconst 1) by decide +kernel) (c := 1) (by decide +kernel)).trans <|
  (l_iadd (show gPG 10 713 = some (.iadd) by decide +kernel) ).trans <|
  (l_iald (show gPG 10 714 = some (.iaload) by decide +kernel) ).trans <| bd_cg fun x1 hx1 =>
  (l_aload_n (show gPG 10 715 = some (.aload_n 0) by decide +kernel) rfl h0).trans <|
  (l_iload_n (show gPG 10 716 = some (.iload_n 3) by decide +kernel) rfl).trans <|
  (l_iconst (show gPG 10 717 = some (.iconst 2) by decide +kernel) (c := 2) (by decide +kernel)).trans <|
  (l_iadd (show gPG 10 718 = some (.iadd) by decide +kernel) ).trans <|
  (l_iald (show gPG 10 719 = some (.iaload) by decide +kernel) ).trans <| bd_cg fun x2 hx2 =>
  (l_aload_n (show gPG 10 720 = some (.aload_n 0) by decide +kernel) rfl h0).trans <|
  (l_iload_n (show gPG 10 721 = some (.iload_n 3) by decide +kernel) rfl).trans <|
  (l_iconst (show gPG 10 722 = some (.iconst 3) by decide +kernel) (c := 3) (by decide +kernel)).trans <|
  (l_iadd (show gPG 10 723 = some (.iadd) by decide +kernel) ).trans <|
  (l_iald (show gPG 10 724 = some (.iaload) by decide +kernel) ).trans <| bd_cg fun x3 hx3 =>
  l_callV (u := 1) (v := (.ref a2)) (as := [.int x1, .int x2, .int x3]) (show gPG 10 725 = some (jinvI 1 65) by decide +kernel) (by decide) (cc := 222) (na := 4) (kd := 13) (q4 := 0) (z := 10) (rest := [.int s0]) (by decide +kernel) (by decide +kernel)  rfl (show (4 : Nat) ≤ 5 by decide) rfl (csi cs0) (by decide +kernel) (cai (cai (cai (cav jr_ref ca0))))
theorem b10_728 (d : Nat) (μ : jM) (r0 : Value) (a1 : Nat) (a2 : Nat) (i3 : Int32) (s0 : Int32) (s1 : Int32) (h0 : jisref r0 = true) : jR d 10 728 [r0, (.ref a1), (.ref a2), .int i3] [.int s1, .int s0] μ = (if s0 = s1 then jR d 10 1254 [r0, (.ref a1), (.ref a2), .int i3] [] μ else some (some (.int 0), μ)) :=
  (l_cmp (show gPG 10 728 = some (.if_icmp .eq 526) by decide +kernel) (t := 1254) (by decide +kernel)).trans <| jm_eq.trans <| ite_cg (
  rfl) (
  (l_iconst (show gPG 10 731 = some (.iconst 0) by decide +kernel) (c := 0) (by decide +kernel)).trans <|
  l_iretK (show gPG 10 732 = some (.ireturn) by decide +kernel) (by decide +kernel))
theorem b10_733 (d : Nat) (μ : jM) (r0 : Value) (a1 : Nat) (a2 : Nat) (i3 : Int32) (h0 : jisref r0 = true) : jR (d + 1) 10 733 [r0, (.ref a1), (.ref a2), .int i3] [] μ = (jaI μ r0 (i3 + 1)).bind fun x1 => (jaI μ r0 (i3 + 2)).bind fun x2 => (if jrecv μ 12 ((.ref a1)) = true then (jC d 34 [(.ref a1), .int x1, .int x2] μ).bind fun p3 => jR (d + 1) 10 747 [r0, (.ref a1), (.ref a2), .int i3] (p3.1.toList ++ []) p3.2 else none) :=
  (l_aload_n (show gPG 10 733 = some (.aload_n 1) by decide +kernel) rfl jr_ref).trans <|
  (l_aload_n (show gPG 10 734 = some (.aload_n 0) by decide +kernel) rfl h0).trans <|
  (l_iload_n (show gPG 10 735 = some (.iload_n 3) by decide +kernel) rfl).trans <|
  (l_iconst (show gPG 10 736 = some (.iconst 1) by decide +kernel) (c := 1) (by decide +kernel)).trans <|
  (l_iadd (show gPG 10 737 = some (.iadd) by decide +kernel) ).trans <|
  (l_iald (show gPG 10 738 = some (.iaload) by decide +kernel) ).trans <| bd_cg fun x1 hx1 =>
  (l_aload_n (show gPG 10 739 = some (.aload_n 0) by decide +kernel) rfl h0).trans <|
  (l_iload_n (show gPG 10 740 = some (.iload_n 3) by decide +kernel) rfl).trans <|
  (l_iconst (show gPG 10 741 = some (.iconst 2) by decide +kernel) (c := 2) (by decide +kernel)).trans <|
  (l_iadd (show gPG 10 742 = some (.iadd) by decide +kernel) ).trans <|
  (l_iald (show gPG 10 743 = some (.iaload) by decide +kernel) ).trans <| bd_cg fun x2 hx2 =>
  l_callV (u := 1) (v := (.ref a1)) (as := [.int x1, .int x2]) (show gPG 10 744 = some (jinvI 1 66) by decide +kernel) (by decide) (cc := 34) (na := 3) (kd := 12) (q4 := 0) (z := 10) (rest := []) (by decide +kernel) (by decide +kernel)  rfl (show (3 : Nat) ≤ 3 by decide) rfl cs0 (by decide +kernel) (cai (cai (cav jr_ref ca0)))
theorem b10_747 (d : Nat) (μ : jM) (r0 : Value) (a1 : Nat) (a2 : Nat) (i3 : Int32) (s0 : Int32) (h0 : jisref r0 = true) : jR (d + 1) 10 747 [r0, (.ref a1), (.ref a2), .int i3] [.int s0] μ = (jaI μ r0 (i3 + 1)).bind fun x1 => (jaI μ r0 (i3 + 2)).bind fun x2 => (if jrecv μ 13 ((.ref a2)) = true then (jC d 223 [(.ref a2), .int x1, .int x2] μ).bind fun p3 => jR (d + 1) 10 761 [r0, (.ref a1), (.ref a2), .int i3] (p3.1.toList ++ [.int s0]) p3.2 else none) :=
  (l_aload_n (show gPG 10 747 = some (.aload_n 2) by decide +kernel) rfl jr_ref).trans <|
  (l_aload_n (show gPG 10 748 = some (.aload_n 0) by decide +kernel) rfl h0).trans <|
  (l_iload_n (show gPG 10 749 = some (.iload_n 3) by decide +kernel) rfl).trans <|
  (l_iconst (show gPG 10 750 = some (.iconst 1) by decide +kernel) (c := 1) (by decide +kernel)).trans <|
  (l_iadd (show gPG 10 751 = some (.iadd) by decide +kernel) ).trans <|
  (l_iald (show gPG 10 752 = some (.iaload) by decide +kernel) ).trans <| bd_cg fun x1 hx1 =>
  (l_aload_n (show gPG 10 753 = some (.aload_n 0) by decide +kernel) rfl h0).trans <|
  (l_iload_n (show gPG 10 754 = some (.iload_n 3) by decide +kernel) rfl).trans <|
  (l_iconst (show gPG 10 755 = some (.iconst 2) by decide +kernel) (c := 2) (by decide +kernel)).trans <|
  (l_iadd (show gPG 10 756 = some (.iadd) by decide +kernel) ).trans <|
  (l_iald (show gPG 10 757 = some (.iaload) by decide +kernel) ).trans <| bd_cg fun x2 hx2 =>
  l_callV (u := 1) (v := (.ref a2)) (as := [.int x1, .int x2]) (show gPG 10 758 = some (jinvI 1 69) by decide +kernel) (by decide) (cc := 223) (na := 3) (kd := 13) (q4 := 0) (z := 10) (rest := [.int s0]) (by decide +kernel) (by decide +kernel)  rfl (show (3 : Nat) ≤ 4 by decide) rfl (csi cs0) (by decide +kernel) (cai (cai (cav jr_ref ca0)))
theorem b10_761 (d : Nat) (μ : jM) (r0 : Value) (a1 : Nat) (a2 : Nat) (i3 : Int32) (s0 : Int32) (s1 : Int32) (h0 : jisref r0 = true) : jR d 10 761 [r0, (.ref a1), (.ref a2), .int i3] [.int s1, .int s0] μ = (if s0 = s1 then jR d 10 1254 [r0, (.ref a1), (.ref a2), .int i3] [] μ else some (some (.int 0), μ)) :=
  (l_cmp (show gPG 10 761 = some (.if_icmp .eq 493) by decide +kernel) (t := 1254) (by decide +kernel)).trans <| jm_eq.trans <| ite_cg (
  rfl) (
  (l_iconst (show gPG 10 764 = some (.iconst 0) by decide +kernel) (c := 0) (by decide +kernel)).trans <|
  l_iretK (show gPG 10 765 = some (.ireturn) by decide +kernel) (by decide +kernel))
theorem b10_766 (d : Nat) (μ : jM) (r0 : Value) (a1 : Nat) (a2 : Nat) (i3 : Int32) (h0 : jisref r0 = true) : jR (d + 1) 10 766 [r0, (.ref a1), (.ref a2), .int i3] [] μ = (if jrecv μ 12 ((.ref a1)) = true then (jC d 35 [(.ref a1)] μ).bind fun p1 => jR (d + 1) 10 770 [r0, (.ref a1), (.ref a2), .int i3] (p1.1.toList ++ []) p1.2 else none) :=
  (l_aload_n (show gPG 10 766 = some (.aload_n 1) by decide +kernel) rfl jr_ref).trans <|
  l_callV (u := 1) (v := (.ref a1)) (as := []) (show gPG 10 767 = some (jinvI 1 70) by decide +kernel) (by decide) (cc := 35) (na := 1) (kd := 12) (q4 := 0) (z := 10) (rest := []) (by decide +kernel) (by decide +kernel)  rfl (show (1 : Nat) ≤ 1 by decide) rfl cs0 (by decide +kernel) (cav jr_ref ca0)
theorem b10_770 (d : Nat) (μ : jM) (r0 : Value) (a1 : Nat) (a2 : Nat) (i3 : Int32) (s0 : Int32) (h0 : jisref r0 = true) : jR (d + 1) 10 770 [r0, (.ref a1), (.ref a2), .int i3] [.int s0] μ = (if jrecv μ 13 ((.ref a2)) = true then (jC d 224 [(.ref a2)] μ).bind fun p1 => jR (d + 1) 10 774 [r0, (.ref a1), (.ref a2), .int i3] (p1.1.toList ++ [.int s0]) p1.2 else none) :=
  (l_aload_n (show gPG 10 770 = some (.aload_n 2) by decide +kernel) rfl jr_ref).trans <|
  l_callV (u := 1) (v := (.ref a2)) (as := []) (show gPG 10 771 = some (jinvI 1 74) by decide +kernel) (by decide) (cc := 224) (na := 1) (kd := 13) (q4 := 0) (z := 10) (rest := [.int s0]) (by decide +kernel) (by decide +kernel)  rfl (show (1 : Nat) ≤ 2 by decide) rfl (csi cs0) (by decide +kernel) (cav jr_ref ca0)
theorem b10_774 (d : Nat) (μ : jM) (r0 : Value) (a1 : Nat) (a2 : Nat) (i3 : Int32) (s0 : Int32) (s1 : Int32) (h0 : jisref r0 = true) : jR d 10 774 [r0, (.ref a1), (.ref a2), .int i3] [.int s1, .int s0] μ = (if s0 = s1 then jR d 10 1254 [r0, (.ref a1), (.ref a2), .int i3] [] μ else some (some (.int 0), μ)) :=
  (l_cmp (show gPG 10 774 = some (.if_icmp .eq 480) by decide +kernel) (t := 1254) (by decide +kernel)).trans <| jm_eq.trans <| ite_cg (
  rfl) (
  (l_iconst (show gPG 10 777 = some (.iconst 0) by decide +kernel) (c := 0) (by decide +kernel)).trans <|
  l_iretK (show gPG 10 778 = some (.ireturn) by decide +kernel) (by decide +kernel))
theorem b10_779 (d : Nat) (μ : jM) (r0 : Value) (a1 : Nat) (a2 : Nat) (i3 : Int32) (h0 : jisref r0 = true) : jR (d + 1) 10 779 [r0, (.ref a1), (.ref a2), .int i3] [] μ = (jaI μ r0 (i3 + 1)).bind fun x1 => (jaI μ r0 (i3 + 2)).bind fun x2 => (if jrecv μ 12 ((.ref a1)) = true then (jC d 36 [(.ref a1), .int x1, .int x2] μ).bind fun p3 => jR (d + 1) 10 793 [r0, (.ref a1), (.ref a2), .int i3] (p3.1.toList ++ []) p3.2 else none) :=
  (l_aload_n (show gPG 10 779 = some (.aload_n 1) by decide +kernel) rfl jr_ref).trans <|
  (l_aload_n (show gPG 10 780 = some (.aload_n 0) by decide +kernel) rfl h0).trans <|
  (l_iload_n (show gPG 10 781 = some (.iload_n 3) by decide +kernel) rfl).trans <|
  (l_iconst (show gPG 10 782 = some (.iconst 1) by decide +kernel) (c := 1) (by decide +kernel)).trans <|
  (l_iadd (show gPG 10 783 = some (.iadd) by decide +kernel) ).trans <|
  (l_iald (show gPG 10 784 = some (.iaload) by decide +kernel) ).trans <| bd_cg fun x1 hx1 =>
  (l_aload_n (show gPG 10 785 = some (.aload_n 0) by decide +kernel) rfl h0).trans <|
  (l_iload_n (show gPG 10 786 = some (.iload_n 3) by decide +kernel) rfl).trans <|
  (l_iconst (show gPG 10 787 = some (.iconst 2) by decide +kernel) (c := 2) (by decide +kernel)).trans <|
  (l_iadd (show gPG 10 788 = some (.iadd) by decide +kernel) ).trans <|
  (l_iald (show gPG 10 789 = some (.iaload) by decide +kernel) ).trans <| bd_cg fun x2 hx2 =>
  l_callV (u := 1) (v := (.ref a1)) (as := [.int x1, .int x2]) (show gPG 10 790 = some (jinvI 1 75) by decide +kernel) (by decide) (cc := 36) (na := 3) (kd := 12) (q4 := 0) (z := 10) (rest := []) (by decide +kernel) (by decide +kernel)  rfl (show (3 : Nat) ≤ 3 by decide) rfl cs0 (by decide +kernel) (cai (cai (cav jr_ref ca0)))
theorem b10_793 (d : Nat) (μ : jM) (r0 : Value) (a1 : Nat) (a2 : Nat) (i3 : Int32) (s0 : Int32) (h0 : jisref r0 = true) : jR (d + 1) 10 793 [r0, (.ref a1), (.ref a2), .int i3] [.int s0] μ = (jaI μ r0 (i3 + 1)).bind fun x1 => (jaI μ r0 (i3 + 2)).bind fun x2 => (if jrecv μ 13 ((.ref a2)) = true then (jC d 241 [(.ref a2), .int x1, .int x2] μ).bind fun p3 => jR (d + 1) 10 807 [r0, (.ref a1), (.ref a2), .int i3] (p3.1.toList ++ [.int s0]) p3.2 else none) :=
  (l_aload_n (show gPG 10 793 = some (.aload_n 2) by decide +kernel) rfl jr_ref).trans <|
  (l_aload_n (show gPG 10 794 = some (.aload_n 0) by decide +kernel) rfl h0).trans <|
  (l_iload_n (show gPG 10 795 = some (.iload_n 3) by decide +kernel) rfl).trans <|
  (l_iconst (show gPG 10 796 = some (.iconst 1) by decide +kernel) (c := 1) (by decide +kernel)).trans <|
  (l_iadd (show gPG 10 797 = some (.iadd) by decide +kernel) ).trans <|
  (l_iald (show gPG 10 798 = some (.iaload) by decide +kernel) ).trans <| bd_cg fun x1 hx1 =>
  (l_aload_n (show gPG 10 799 = some (.aload_n 0) by decide +kernel) rfl h0).trans <|
  (l_iload_n (show gPG 10 800 = some (.iload_n 3) by decide +kernel) rfl).trans <|
  (l_iconst (show gPG 10 801 = some (.iconst 2) by decide +kernel) (c := 2) (by decide +kernel)).trans <|
  (l_iadd (show gPG 10 802 = some (.iadd) by decide +kernel) ).trans <|
  (l_iald (show gPG 10 803 = some (.iaload) by decide +kernel) ).trans <| bd_cg fun x2 hx2 =>
  l_callV (u := 1) (v := (.ref a2)) (as := [.int x1, .int x2]) (show gPG 10 804 = some (jinvI 1 78) by decide +kernel) (by decide) (cc := 241) (na := 3) (kd := 13) (q4 := 0) (z := 10) (rest := [.int s0]) (by decide +kernel) (by decide +kernel)  rfl (show (3 : Nat) ≤ 4 by decide) rfl (csi cs0) (by decide +kernel) (cai (cai (cav jr_ref ca0)))
theorem b10_807 (d : Nat) (μ : jM) (r0 : Value) (a1 : Nat) (a2 : Nat) (i3 : Int32) (s0 : Int32) (s1 : Int32) (h0 : jisref r0 = true) : jR d 10 807 [r0, (.ref a1), (.ref a2), .int i3] [.int s1, .int s0] μ = (if s0 = s1 then jR d 10 1254 [r0, (.ref a1), (.ref a2), .int i3] [] μ else some (some (.int 0), μ)) :=
  (l_cmp (show gPG 10 807 = some (.if_icmp .eq 447) by decide +kernel) (t := 1254) (by decide +kernel)).trans <| jm_eq.trans <| ite_cg (
  rfl) (
  (l_iconst (show gPG 10 810 = some (.iconst 0) by decide +kernel) (c := 0) (by decide +kernel)).trans <|
  l_iretK (show gPG 10 811 = some (.ireturn) by decide +kernel) (by decide +kernel))
theorem b10_812 (d : Nat) (μ : jM) (r0 : Value) (a1 : Nat) (a2 : Nat) (i3 : Int32) (h0 : jisref r0 = true) : jR (d + 1) 10 812 [r0, (.ref a1), (.ref a2), .int i3] [] μ = (jaI μ r0 (i3 + 1)).bind fun x1 => (jaI μ r0 (i3 + 2)).bind fun x2 => (if jrecv μ 12 ((.ref a1)) = true then (jC d 37 [(.ref a1), .int x1, .int x2] μ).bind fun p3 => jR (d + 1) 10 826 [r0, (.ref a1), (.ref a2), .int i3] (p3.1.toList ++ []) p3.2 else none) :=
  (l_aload_n (show gPG 10 812 = some (.aload_n 1) by decide +kernel) rfl jr_ref).trans <|
  (l_aload_n (show gPG 10 813 = some (.aload_n 0) by decide +kernel) rfl h0).trans <|
  (l_iload_n (show gPG 10 814 = some (.iload_n 3) by decide +kernel) rfl).trans <|
  (l_iconst (show gPG 10 815 = some (.iconst 1) by decide +kernel) (c := 1) (by decide +kernel)).trans <|
  (l_iadd (show gPG 10 816 = some (.iadd) by decide +kernel) ).trans <|
  (l_iald (show gPG 10 817 = some (.iaload) by decide +kernel) ).trans <| bd_cg fun x1 hx1 =>
  (l_aload_n (show gPG 10 818 = some (.aload_n 0) by decide +kernel) rfl h0).trans <|
  (l_iload_n (show gPG 10 819 = some (.iload_n 3) by decide +kernel) rfl).trans <|
  (l_iconst (show gPG 10 820 = some (.iconst 2) by decide +kernel) (c := 2) (by decide +kernel)).trans <|
  (l_iadd (show gPG 10 821 = some (.iadd) by decide +kernel) ).trans <|
  (l_iald (show gPG 10 822 = some (.iaload) by decide +kernel) ).trans <| bd_cg fun x2 hx2 =>
  l_callV (u := 1) (v := (.ref a1)) (as := [.int x1, .int x2]) (show gPG 10 823 = some (jinvI 1 79) by decide +kernel) (by decide) (cc := 37) (na := 3) (kd := 12) (q4 := 0) (z := 10) (rest := []) (by decide +kernel) (by decide +kernel)  rfl (show (3 : Nat) ≤ 3 by decide) rfl cs0 (by decide +kernel) (cai (cai (cav jr_ref ca0)))
theorem b10_826 (d : Nat) (μ : jM) (r0 : Value) (a1 : Nat) (a2 : Nat) (i3 : Int32) (s0 : Int32) (h0 : jisref r0 = true) : jR (d + 1) 10 826 [r0, (.ref a1), (.ref a2), .int i3] [.int s0] μ = (jaI μ r0 (i3 + 1)).bind fun x1 => (jaI μ r0 (i3 + 2)).bind fun x2 => (if jrecv μ 13 ((.ref a2)) = true then (jC d 242 [(.ref a2), .int x1, .int x2] μ).bind fun p3 => jR (d + 1) 10 840 [r0, (.ref a1), (.ref a2), .int i3] (p3.1.toList ++ [.int s0]) p3.2 else none) :=
  (l_aload_n (show gPG 10 826 = some (.aload_n 2) by decide +kernel) rfl jr_ref).trans <|
  (l_aload_n (show gPG 10 827 = some (.aload_n 0) by decide +kernel) rfl h0).trans <|
  (l_iload_n (show gPG 10 828 = some (.iload_n 3) by decide +kernel) rfl).trans <|
  (l_iconst (show gPG 10 829 = some (.iconst 1) by decide +kernel) (c := 1) (by decide +kernel)).trans <|
  (l_iadd (show gPG 10 830 = some (.iadd) by decide +kernel) ).trans <|
  (l_iald (show gPG 10 831 = some (.iaload) by decide +kernel) ).trans <| bd_cg fun x1 hx1 =>
  (l_aload_n (show gPG 10 832 = some (.aload_n 0) by decide +kernel) rfl h0).trans <|
  (l_iload_n (show gPG 10 833 = some (.iload_n 3) by decide +kernel) rfl).trans <|
  (l_iconst (show gPG 10 834 = some (.iconst 2) by decide +kernel) (c := 2) (by decide +kernel)).trans <|
  (l_iadd (show gPG 10 835 = some (.iadd) by decide +kernel) ).trans <|
  (l_iald (show gPG 10 836 = some (.iaload) by decide +kernel) ).trans <| bd_cg fun x2 hx2 =>
  l_callV (u := 1) (v := (.ref a2)) (as := [.int x1, .int x2]) (show gPG 10 837 = some (jinvI 1 82) by decide +kernel) (by decide) (cc := 242) (na := 3) (kd := 13) (q4 := 0) (z := 10) (rest := [.int s0]) (by decide +kernel) (by decide +kernel)  rfl (show (3 : Nat) ≤ 4 by decide) rfl (csi cs0) (by decide +kernel) (cai (cai (cav jr_ref ca0)))
theorem b10_840 (d : Nat) (μ : jM) (r0 : Value) (a1 : Nat) (a2 : Nat) (i3 : Int32) (s0 : Int32) (s1 : Int32) (h0 : jisref r0 = true) : jR d 10 840 [r0, (.ref a1), (.ref a2), .int i3] [.int s1, .int s0] μ = (if s0 = s1 then jR d 10 1254 [r0, (.ref a1), (.ref a2), .int i3] [] μ else some (some (.int 0), μ)) :=
  (l_cmp (show gPG 10 840 = some (.if_icmp .eq 414) by decide +kernel) (t := 1254) (by decide +kernel)).trans <| jm_eq.trans <| ite_cg (
  rfl) (
  (l_iconst (show gPG 10 843 = some (.iconst 0) by decide +kernel) (c := 0) (by decide +kernel)).trans <|
  l_iretK (show gPG 10 844 = some (.ireturn) by decide +kernel) (by decide +kernel))
theorem b10_845 (d : Nat) (μ : jM) (r0 : Value) (a1 : Nat) (a2 : Nat) (i3 : Int32) (h0 : jisref r0 = true) : jR (d + 1) 10 845 [r0, (.ref a1), (.ref a2), .int i3] [] μ = (if jrecv μ 12 ((.ref a1)) = true then (jC d 38 [(.ref a1)] μ).bind fun p1 => jR (d + 1) 10 849 [r0, (.ref a1), (.ref a2), .int i3] (p1.1.toList ++ []) p1.2 else none) :=
  (l_aload_n (show gPG 10 845 = some (.aload_n 1) by decide +kernel) rfl jr_ref).trans <|
  l_callV (u := 1) (v := (.ref a1)) (as := []) (show gPG 10 846 = some (jinvI 1 83) by decide +kernel) (by decide) (cc := 38) (na := 1) (kd := 12) (q4 := 0) (z := 10) (rest := []) (by decide +kernel) (by decide +kernel)  rfl (show (1 : Nat) ≤ 1 by decide) rfl cs0 (by decide +kernel) (cav jr_ref ca0)
theorem b10_849 (d : Nat) (μ : jM) (r0 : Value) (a1 : Nat) (a2 : Nat) (i3 : Int32) (s0 : Int32) (h0 : jisref r0 = true) : jR (d + 1) 10 849 [r0, (.ref a1), (.ref a2), .int i3] [.int s0] μ = (if jrecv μ 13 ((.ref a2)) = true then (jC d 244 [(.ref a2)] μ).bind fun p1 => jR (d + 1) 10 853 [r0, (.ref a1), (.ref a2), .int i3] (p1.1.toList ++ [.int s0]) p1.2 else none) :=
  (l_aload_n (show gPG 10 849 = some (.aload_n 2) by decide +kernel) rfl jr_ref).trans <|
  l_callV (u := 1) (v := (.ref a2)) (as := []) (show gPG 10 850 = some (jinvI 1 86) by decide +kernel) (by decide) (cc := 244) (na := 1) (kd := 13) (q4 := 0) (z := 10) (rest := [.int s0]) (by decide +kernel) (by decide +kernel)  rfl (show (1 : Nat) ≤ 2 by decide) rfl (csi cs0) (by decide +kernel) (cav jr_ref ca0)
theorem b10_853 (d : Nat) (μ : jM) (r0 : Value) (a1 : Nat) (a2 : Nat) (i3 : Int32) (s0 : Int32) (s1 : Int32) (h0 : jisref r0 = true) : jR d 10 853 [r0, (.ref a1), (.ref a2), .int i3] [.int s1, .int s0] μ = (if s0 = s1 then jR d 10 1254 [r0, (.ref a1), (.ref a2), .int i3] [] μ else some (some (.int 0), μ)) :=
  (l_cmp (show gPG 10 853 = some (.if_icmp .eq 401) by decide +kernel) (t := 1254) (by decide +kernel)).trans <| jm_eq.trans <| ite_cg (
  rfl) (
  (l_iconst (show gPG 10 856 = some (.iconst 0) by decide +kernel) (c := 0) (by decide +kernel)).trans <|
  l_iretK (show gPG 10 857 = some (.ireturn) by decide +kernel) (by decide +kernel))
theorem b10_858 (d : Nat) (μ : jM) (r0 : Value) (a1 : Nat) (a2 : Nat) (i3 : Int32) (h0 : jisref r0 = true) : jR (d + 1) 10 858 [r0, (.ref a1), (.ref a2), .int i3] [] μ = (if jrecv μ 12 ((.ref a1)) = true then (jC d 39 [(.ref a1)] μ).bind fun p1 => jR (d + 1) 10 862 [r0, (.ref a1), (.ref a2), .int i3] (p1.1.toList ++ []) p1.2 else none) :=
  (l_aload_n (show gPG 10 858 = some (.aload_n 1) by decide +kernel) rfl jr_ref).trans <|
  l_callV (u := 1) (v := (.ref a1)) (as := []) (show gPG 10 859 = some (jinvI 1 87) by decide +kernel) (by decide) (cc := 39) (na := 1) (kd := 12) (q4 := 0) (z := 10) (rest := []) (by decide +kernel) (by decide +kernel)  rfl (show (1 : Nat) ≤ 1 by decide) rfl cs0 (by decide +kernel) (cav jr_ref ca0)
theorem b10_862 (d : Nat) (μ : jM) (r0 : Value) (a1 : Nat) (a2 : Nat) (i3 : Int32) (s0 : Int32) (h0 : jisref r0 = true) : jR (d + 1) 10 862 [r0, (.ref a1), (.ref a2), .int i3] [.int s0] μ = (if jrecv μ 13 ((.ref a2)) = true then (jC d 161 [(.ref a2)] μ).bind fun p1 => jR (d + 1) 10 866 [r0, (.ref a1), (.ref a2), .int i3] (p1.1.toList ++ [.int s0]) p1.2 else none) :=
  (l_aload_n (show gPG 10 862 = some (.aload_n 2) by decide +kernel) rfl jr_ref).trans <|
  l_callV (u := 1) (v := (.ref a2)) (as := []) (show gPG 10 863 = some (jinvI 1 90) by decide +kernel) (by decide) (cc := 161) (na := 1) (kd := 13) (q4 := 0) (z := 10) (rest := [.int s0]) (by decide +kernel) (by decide +kernel)  rfl (show (1 : Nat) ≤ 2 by decide) rfl (csi cs0) (by decide +kernel) (cav jr_ref ca0)
theorem b10_866 (d : Nat) (μ : jM) (r0 : Value) (a1 : Nat) (a2 : Nat) (i3 : Int32) (s0 : Int32) (s1 : Int32) (h0 : jisref r0 = true) : jR d 10 866 [r0, (.ref a1), (.ref a2), .int i3] [.int s1, .int s0] μ = (if s0 = s1 then jR d 10 1254 [r0, (.ref a1), (.ref a2), .int i3] [] μ else some (some (.int 0), μ)) :=
  (l_cmp (show gPG 10 866 = some (.if_icmp .eq 388) by decide +kernel) (t := 1254) (by decide +kernel)).trans <| jm_eq.trans <| ite_cg (
  rfl) (
  (l_iconst (show gPG 10 869 = some (.iconst 0) by decide +kernel) (c := 0) (by decide +kernel)).trans <|
  l_iretK (show gPG 10 870 = some (.ireturn) by decide +kernel) (by decide +kernel))
theorem b10_871 (d : Nat) (μ : jM) (r0 : Value) (a1 : Nat) (a2 : Nat) (i3 : Int32) (h0 : jisref r0 = true) : jR (d + 1) 10 871 [r0, (.ref a1), (.ref a2), .int i3] [] μ = (if jrecv μ 12 ((.ref a1)) = true then (jC d 40 [(.ref a1)] μ).bind fun p1 => jR (d + 1) 10 875 [r0, (.ref a1), (.ref a2), .int i3] (p1.1.toList ++ []) p1.2 else none) :=
  (l_aload_n (show gPG 10 871 = some (.aload_n 1) by decide +kernel) rfl jr_ref).trans <|
  l_callV (u := 1) (v := (.ref a1)) (as := []) (show gPG 10 872 = some (jinvI 1 91) by decide +kernel) (by decide) (cc := 40) (na := 1) (kd := 12) (q4 := 0) (z := 10) (rest := []) (by decide +kernel) (by decide +kernel)  rfl (show (1 : Nat) ≤ 1 by decide) rfl cs0 (by decide +kernel) (cav jr_ref ca0)
theorem b10_875 (d : Nat) (μ : jM) (r0 : Value) (a1 : Nat) (a2 : Nat) (i3 : Int32) (s0 : Int32) (h0 : jisref r0 = true) : jR (d + 1) 10 875 [r0, (.ref a1), (.ref a2), .int i3] [.int s0] μ = (if jrecv μ 13 ((.ref a2)) = true then (jC d 245 [(.ref a2)] μ).bind fun p1 => jR (d + 1) 10 879 [r0, (.ref a1), (.ref a2), .int i3] (p1.1.toList ++ [.int s0]) p1.2 else none) :=
  (l_aload_n (show gPG 10 875 = some (.aload_n 2) by decide +kernel) rfl jr_ref).trans <|
  l_callV (u := 1) (v := (.ref a2)) (as := []) (show gPG 10 876 = some (jinvI 1 94) by decide +kernel) (by decide) (cc := 245) (na := 1) (kd := 13) (q4 := 0) (z := 10) (rest := [.int s0]) (by decide +kernel) (by decide +kernel)  rfl (show (1 : Nat) ≤ 2 by decide) rfl (csi cs0) (by decide +kernel) (cav jr_ref ca0)
theorem b10_879 (d : Nat) (μ : jM) (r0 : Value) (a1 : Nat) (a2 : Nat) (i3 : Int32) (s0 : Int32) (s1 : Int32) (h0 : jisref r0 = true) : jR d 10 879 [r0, (.ref a1), (.ref a2), .int i3] [.int s1, .int s0] μ = (if s0 = s1 then jR d 10 1254 [r0, (.ref a1), (.ref a2), .int i3] [] μ else some (some (.int 0), μ)) :=
  (l_cmp (show gPG 10 879 = some (.if_icmp .eq 375) by decide +kernel) (t := 1254) (by decide +kernel)).trans <| jm_eq.trans <| ite_cg (
  rfl) (
  (l_iconst (show gPG 10 882 = some (.iconst 0) by decide +kernel) (c := 0) (by decide +kernel)).trans <|
  l_iretK (show gPG 10 883 = some (.ireturn) by decide +kernel) (by decide +kernel))
theorem b10_884 (d : Nat) (μ : jM) (r0 : Value) (a1 : Nat) (a2 : Nat) (i3 : Int32) (h0 : jisref r0 = true) : jR (d + 1) 10 884 [r0, (.ref a1), (.ref a2), .int i3] [] μ = (jaI μ r0 (i3 + 1)).bind fun x1 => (jaI μ r0 (i3 + 2)).bind fun x2 => (if jrecv μ 12 ((.ref a1)) = true then (jC d 41 [(.ref a1), .int x1, .int x2] μ).bind fun p3 => jR (d + 1) 10 898 [r0, (.ref a1), (.ref a2), .int i3] (p3.1.toList ++ []) p3.2 else none) :=
  (l_aload_n (show gPG 10 884 = some (.aload_n 1) by decide +kernel) rfl jr_ref).trans <|
  (l_aload_n (show gPG 10 885 = some (.aload_n 0) by decide +kernel) rfl h0).trans <|
  (l_iload_n (show gPG 10 886 = some (.iload_n 3) by decide +kernel) rfl).trans <|
  (l_iconst (show gPG 10 887 = some (.iconst 1) by decide +kernel) (c := 1) (by decide +kernel)).trans <|
  (l_iadd (show gPG 10 888 = some (.iadd) by decide +kernel) ).trans <|
  (l_iald (show gPG 10 889 = some (.iaload) by decide +kernel) ).trans <| bd_cg fun x1 hx1 =>
  (l_aload_n (show gPG 10 890 = some (.aload_n 0) by decide +kernel) rfl h0).trans <|
  (l_iload_n (show gPG 10 891 = some (.iload_n 3) by decide +kernel) rfl).trans <|
  (l_iconst (show gPG 10 892 = some (.iconst 2) by decide +kernel) (c := 2) (by decide +kernel)).trans <|
  (l_iadd (show gPG 10 893 = some (.iadd) by decide +kernel) ).trans <|
  (l_iald (show gPG 10 894 = some (.iaload) by decide +kernel) ).trans <| bd_cg fun x2 hx2 =>
  l_callV (u := 1) (v := (.ref a1)) (as := [.int x1, .int x2]) (show gPG 10 895 = some (jinvI 1 95) by decide +kernel) (by decide) (cc := 41) (na := 3) (kd := 12) (q4 := 0) (z := 10) (rest := []) (by decide +kernel) (by decide +kernel)  rfl (show (3 : Nat) ≤ 3 by decide) rfl cs0 (by decide +kernel) (cai (cai (cav jr_ref ca0)))
theorem b10_898 (d : Nat) (μ : jM) (r0 : Value) (a1 : Nat) (a2 : Nat) (i3 : Int32) (s0 : Int32) (h0 : jisref r0 = true) : jR (d + 1) 10 898 [r0, (.ref a1), (.ref a2), .int i3] [.int s0] μ = (jaI μ r0 (i3 + 1)).bind fun x1 => (jaI μ r0 (i3 + 2)).bind fun x2 => (if jrecv μ 13 ((.ref a2)) = true then (jC d 250 [(.ref a2), .int x1, .int x2] μ).bind fun p3 => jR (d + 1) 10 912 [r0, (.ref a1), (.ref a2), .int i3] (p3.1.toList ++ [.int s0]) p3.2 else none) :=
  (l_aload_n (show gPG 10 898 = some (.aload_n 2) by decide +kernel) rfl jr_ref).trans <|
  (l_aload_n (show gPG 10 899 = some (.aload_n 0) by decide +kernel) rfl h0).trans <|
  (l_iload_n (show gPG 10 900 = some (.iload_n 3) by decide +kernel) rfl).trans <|
  (l_iconst (show gPG 10 901 = some (.iconst 1) by decide +kernel) (c := 1) (by decide +kernel)).trans <|
  (l_iadd (show gPG 10 902 = some (.iadd) by decide +kernel) ).trans <|
  (l_iald (show gPG 10 903 = some (.iaload) by decide +kernel) ).trans <| bd_cg fun x1 hx1 =>
  (l_aload_n (show gPG 10 904 = some (.aload_n 0) by decide +kernel) rfl h0).trans <|
  (l_iload_n (show gPG 10 905 = some (.iload_n 3) by decide +kernel) rfl).trans <|
  (l_iconst (show gPG 10 906 = some (.iconst 2) by decide +kernel) (c := 2) (by decide +kernel)).trans <|
  (l_iadd (show gPG 10 907 = some (.iadd) by decide +kernel) ).trans <|
  (l_iald (show gPG 10 908 = some (.iaload) by decide +kernel) ).trans <| bd_cg fun x2 hx2 =>
  l_callV (u := 1) (v := (.ref a2)) (as := [.int x1, .int x2]) (show gPG 10 909 = some (jinvI 1 98) by decide +kernel) (by decide) (cc := 250) (na := 3) (kd := 13) (q4 := 0) (z := 10) (rest := [.int s0]) (by decide +kernel) (by decide +kernel)  rfl (show (3 : Nat) ≤ 4 by decide) rfl (csi cs0) (by decide +kernel) (cai (cai (cav jr_ref ca0)))
theorem b10_912 (d : Nat) (μ : jM) (r0 : Value) (a1 : Nat) (a2 : Nat) (i3 : Int32) (s0 : Int32) (s1 : Int32) (h0 : jisref r0 = true) : jR d 10 912 [r0, (.ref a1), (.ref a2), .int i3] [.int s1, .int s0] μ = (if s0 = s1 then jR d 10 1254 [r0, (.ref a1), (.ref a2), .int i3] [] μ else some (some (.int 0), μ)) :=
  (l_cmp (show gPG 10 912 = some (.if_icmp .eq 342) by decide +kernel) (t := 1254) (by decide +kernel)).trans <| jm_eq.trans <| ite_cg (
  rfl) (
  (l_iconst (show gPG 10 915 = some (.iconst 0) by decide +kernel) (c := 0) (by decide +kernel)).trans <|
  l_iretK (show gPG 10 916 = some (.ireturn) by decide +kernel) (by decide +kernel))
theorem b10_917 (d : Nat) (μ : jM) (r0 : Value) (a1 : Nat) (a2 : Nat) (i3 : Int32) (h0 : jisref r0 = true) : jR (d + 1) 10 917 [r0, (.ref a1), (.ref a2), .int i3] [] μ = (jaI μ r0 (i3 + 1)).bind fun x1 => (jaI μ r0 (i3 + 2)).bind fun x2 => (jaI μ r0 (i3 + 3)).bind fun x3 => (if jrecv μ 12 ((.ref a1)) = true then (jC d 45 [(.ref a1), .int x1, .int x2, .int x3] μ).bind fun p4 => jR (d + 1) 10 936 [r0, (.ref a1), (.ref a2), .int i3] (p4.1.toList ++ []) p4.2 else none) :=
  (l_aload_n (show gPG 10 917 = some (.aload_n 1) by decide +kernel) rfl jr_ref).trans <|
  (l_aload_n (show gPG 10 918 = some (.aload_n 0) by decide +kernel) rfl h0).trans <|
  (l_iload_n (show gPG 10 919 = some (.iload_n 3) by decide +kernel) rfl).trans <|
  (l_iconst (show gPG 10 920 = some (.iconst 1) by decide +kernel) (c := 1) (by decide +kernel)).trans <|
  (l_iadd (show gPG 10 921 = some (.iadd) by decide +kernel) ).trans <|
  (l_iald (show gPG 10 922 = some (.iaload) by decide +kernel) ).trans <| bd_cg fun x1 hx1 =>
  (l_aload_n (show gPG 10 923 = some (.aload_n 0) by decide +kernel) rfl h0).trans <|
  (l_iload_n (show gPG 10 924 = some (.iload_n 3) by decide +kernel) rfl).trans <|
  (l_iconst (show gPG 10 925 = some (.iconst 2) by decide +kernel) (c := 2) (by decide +kernel)).trans <|
  (l_iadd (show gPG 10 926 = some (.iadd) by decide +kernel) ).trans <|
  (l_iald (show gPG 10 927 = some (.iaload) by decide +kernel) ).trans <| bd_cg fun x2 hx2 =>
  (l_aload_n (show gPG 10 928 = some (.aload_n 0) by decide +kernel) rfl h0).trans <|
  (l_iload_n (show gPG 10 929 = some (.iload_n 3) by decide +kernel) rfl).trans <|
  (l_iconst (show gPG 10 930 = some (.iconst 3) by decide +kernel) (c := 3) (by decide +kernel)).trans <|
  (l_iadd (show gPG 10 931 = some (.iadd) by decide +kernel) ).trans <|
  (l_iald (show gPG 10 932 = some (.iaload) by decide +kernel) ).trans <| bd_cg fun x3 hx3 =>
  l_callV (u := 1) (v := (.ref a1)) (as := [.int x1, .int x2, .int x3]) (show gPG 10 933 = some (jinvI 1 99) by decide +kernel) (by decide) (cc := 45) (na := 4) (kd := 12) (q4 := 0) (z := 10) (rest := []) (by decide +kernel) (by decide +kernel)  rfl (show (4 : Nat) ≤ 4 by decide) rfl cs0 (by decide +kernel) (cai (cai (cai (cav jr_ref ca0))))
theorem b10_936 (d : Nat) (μ : jM) (r0 : Value) (a1 : Nat) (a2 : Nat) (i3 : Int32) (s0 : Int32) (h0 : jisref r0 = true) : jR (d + 1) 10 936 [r0, (.ref a1), (.ref a2), .int i3] [.int s0] μ = (jaI μ r0 (i3 + 1)).bind fun x1 => (jaI μ r0 (i3 + 2)).bind fun x2 => (jaI μ r0 (i3 + 3)).bind fun x3 => (if jrecv μ 13 ((.ref a2)) = true then (jC d 253 [(.ref a2), .int x1, .int x2, .int x3] μ).bind fun p4 => jR (d + 1) 10 955 [r0, (.ref a1), (.ref a2), .int i3] (p4.1.toList ++ [.int s0]) p4.2 else none) :=
  (l_aload_n (show gPG 10 936 = some (.aload_n 2) by decide +kernel) rfl jr_ref).trans <|
  (l_aload_n (show gPG 10 937 = some (.aload_n 0) by decide +kernel) rfl h0).trans <|
  (l_iload_n (show gPG 10 938 = some (.iload_n 3) by decide +kernel) rfl).trans <|
  (l_iconst (show gPG 10 939 = some (.iconst 1) by decide +kernel) (c := 1) (by decide +kernel)).trans <|
  (l_iadd (show gPG 10 940 = some (.iadd) by decide +kernel) ).trans <|
  (l_iald (show gPG 10 941 = some (.iaload) by decide +kernel) ).trans <| bd_cg fun x1 hx1 =>
  (l_aload_n (show gPG 10 942 = some (.aload_n 0) by decide +kernel) rfl h0).trans <|
  (l_iload_n (show gPG 10 943 = some (.iload_n 3) by decide +kernel) rfl).trans <|
  (l_iconst (show gPG 10 944 = some (.iconst 2) by decide +kernel) (c := 2) (by decide +kernel)).trans <|
  (l_iadd (show gPG 10 945 = some (.iadd) by decide +kernel) ).trans <|
  (l_iald (show gPG 10 946 = some (.iaload) by decide +kernel) ).trans <| bd_cg fun x2 hx2 =>
  (l_aload_n (show gPG 10 947 = some (.aload_n 0) by decide +kernel) rfl h0).trans <|
  (l_iload_n (show gPG 10 948 = some (.iload_n 3) by decide +kernel) rfl).trans <|
  (l_iconst (show gPG 10 949 = some (.iconst 3) by decide +kernel) (c := 3) (by decide +kernel)).trans <|
  (l_iadd (show gPG 10 950 = some (.iadd) by decide +kernel) ).trans <|
  (l_iald (show gPG 10 951 = some (.iaload) by decide +kernel) ).trans <| bd_cg fun x3 hx3 =>
  l_callV (u := 1) (v := (.ref a2)) (as := [.int x1, .int x2, .int x3]) (show gPG 10 952 = some (jinvI 1 102) by decide +kernel) (by decide) (cc := 253) (na := 4) (kd := 13) (q4 := 0) (z := 10) (rest := [.int s0]) (by decide +kernel) (by decide +kernel)  rfl (show (4 : Nat) ≤ 5 by decide) rfl (csi cs0) (by decide +kernel) (cai (cai (cai (cav jr_ref ca0))))
theorem b10_955 (d : Nat) (μ : jM) (r0 : Value) (a1 : Nat) (a2 : Nat) (i3 : Int32) (s0 : Int32) (s1 : Int32) (h0 : jisref r0 = true) : jR d 10 955 [r0, (.ref a1), (.ref a2), .int i3] [.int s1, .int s0] μ = (if s0 = s1 then jR d 10 1254 [r0, (.ref a1), (.ref a2), .int i3] [] μ else some (some (.int 0), μ)) :=
  (l_cmp (show gPG 10 955 = some (.if_icmp .eq 299) by decide +kernel) (t := 1254) (by decide +kernel)).trans <| jm_eq.trans <| ite_cg (
  rfl) (
  (l_iconst (show gPG 10 958 = some (.iconst 0) by decide +kernel) (c := 0) (by decide +kernel)).trans <|
  l_iretK (show gPG 10 959 = some (.ireturn) by decide +kernel) (by decide +kernel))
theorem b10_960 (d : Nat) (μ : jM) (r0 : Value) (a1 : Nat) (a2 : Nat) (i3 : Int32) (h0 : jisref r0 = true) : jR (d + 1) 10 960 [r0, (.ref a1), (.ref a2), .int i3] [] μ = (jaI μ r0 (i3 + 1)).bind fun x1 => (jaI μ r0 (i3 + 2)).bind fun x2 => (jaI μ r0 (i3 + 3)).bind fun x3 => (jaI μ r0 (i3 + 4)).bind fun x4 => (if jrecv μ 12 ((.ref a1)) = true then (jC d 47 [(.ref a1), .int x1, .int x2, .int x3, .int x4] μ).bind fun p5 => jR (d + 1) 10 984 [r0, (.ref a1), (.ref a2), .int i3] (p5.1.toList ++ []) p5.2 else none) :=
  (l_aload_n (show gPG 10 960 = some (.aload_n 1) by decide +kernel) rfl jr_ref).trans <|
  (l_aload_n (show gPG 10 961 = some (.aload_n 0) by decide +kernel) rfl h0).trans <|
  (l_iload_n (show gPG 10 962 = some (.iload_n 3) by decide +kernel) rfl).trans <|
  (l_iconst (show gPG 10 963 = some (.iconst 1) by decide +kernel) (c := 1) (by decide +kernel)).trans <|
  (l_iadd (show gPG 10 964 = some (.iadd) by decide +kernel) ).trans <|
  (l_iald (show gPG 10 965 = some (.iaload) by decide +kernel) ).trans <| bd_cg fun x1 hx1 =>
  (l_aload_n (show gPG 10 966 = some (.aload_n 0) by decide +kernel) rfl h0).trans <|
  (l_iload_n (show gPG 10 967 = some (.iload_n 3) by decide +kernel) rfl).trans <|
  (l_iconst (show gPG 10 968 = some (.iconst 2) by decide +kernel) (c := 2) (by decide +kernel)).trans <|
  (l_iadd (show gPG 10 969 = some (.iadd) by decide +kernel) ).trans <|
  (l_iald (show gPG 10 970 = some (.iaload) by decide +kernel) ).trans <| bd_cg fun x2 hx2 =>
  (l_aload_n (show gPG 10 971 = some (.aload_n 0) by decide +kernel) rfl h0).trans <|
  (l_iload_n (show gPG 10 972 = some (.iload_n 3) by decide +kernel) rfl).trans <|
  (l_iconst (show gPG 10 973 = some (.iconst 3) by decide +kernel) (c := 3) (by decide +kernel)).trans <|
  (l_iadd (show gPG 10 974 = some (.iadd) by decide +kernel) ).trans <|
  (l_iald (show gPG 10 975 = some (.iaload) by decide +kernel) ).trans <| bd_cg fun x3 hx3 =>
  (l_aload_n (show gPG 10 976 = some (.aload_n 0) by decide +kernel) rfl h0).trans <|
  (l_iload_n (show gPG 10 977 = some (.iload_n 3) by decide +kernel) rfl).trans <|
  (l_iconst (show gPG 10 978 = some (.iconst 4) by decide +kernel) (c := 4) (by decide +kernel)).trans <|
  (l_iadd (show gPG 10 979 = some (.iadd) by decide +kernel) ).trans <|
  (l_iald (show gPG 10 980 = some (.iaload) by decide +kernel) ).trans <| bd_cg fun x4 hx4 =>
  l_callV (u := 1) (v := (.ref a1)) (as := [.int x1, .int x2, .int x3, .int x4]) (show gPG 10 981 = some (jinvI 1 103) by decide +kernel) (by decide) (cc := 47) (na := 5) (kd := 12) (q4 := 0) (z := 10) (rest := []) (by decide +kernel) (by decide +kernel)  rfl (show (5 : Nat) ≤ 5 by decide) rfl cs0 (by decide +kernel) (cai (cai (cai (cai (cav jr_ref ca0)))))
theorem b10_984 (d : Nat) (μ : jM) (r0 : Value) (a1 : Nat) (a2 : Nat) (i3 : Int32) (s0 : Int32) (h0 : jisref r0 = true) : jR (d + 1) 10 984 [r0, (.ref a1), (.ref a2), .int i3] [.int s0] μ = (jaI μ r0 (i3 + 1)).bind fun x1 => (jaI μ r0 (i3 + 2)).bind fun x2 => (jaI μ r0 (i3 + 3)).bind fun x3 => (jaI μ r0 (i3 + 4)).bind fun x4 => (if jrecv μ 13 ((.ref a2)) = true then (jC d 255 [(.ref a2), .int x1, .int x2, .int x3, .int x4] μ).bind fun p5 => jR (d + 1) 10 1008 [r0, (.ref a1), (.ref a2), .int i3] (p5.1.toList ++ [.int s0]) p5.2 else none) :=
  (l_aload_n (show gPG 10 984 = some (.aload_n 2) by decide +kernel) rfl jr_ref).trans <|
  (l_aload_n (show gPG 10 985 = some (.aload_n 0) by decide +kernel) rfl h0).trans <|
  (l_iload_n (show gPG 10 986 = some (.iload_n 3) by decide +kernel) rfl).trans <|
  (l_iconst (show gPG 10 987 = some (.iconst 1) by decide +kernel) (c := 1) (by decide +kernel)).trans <|
  (l_iadd (show gPG 10 988 = some (.iadd) by decide +kernel) ).trans <|
  (l_iald (show gPG 10 989 = some (.iaload) by decide +kernel) ).trans <| bd_cg fun x1 hx1 =>
  (l_aload_n (show gPG 10 990 = some (.aload_n 0) by decide +kernel) rfl h0).trans <|
  (l_iload_n (show gPG 10 991 = some (.iload_n 3) by decide +kernel) rfl).trans <|
  (l_iconst (show gPG 10 992 = some (.iconst 2) by decide +kernel) (c := 2) (by decide +kernel)).trans <|
  (l_iadd (show gPG 10 993 = some (.iadd) by decide +kernel) ).trans <|
  (l_iald (show gPG 10 994 = some (.iaload) by decide +kernel) ).trans <| bd_cg fun x2 hx2 =>
  (l_aload_n (show gPG 10 995 = some (.aload_n 0) by decide +kernel) rfl h0).trans <|
  (l_iload_n (show gPG 10 996 = some (.iload_n 3) by decide +kernel) rfl).trans <|
  (l_iconst (show gPG 10 997 = some (.iconst 3) by decide +kernel) (c := 3) (by decide +kernel)).trans <|
  (l_iadd (show gPG 10 998 = some (.iadd) by decide +kernel) ).trans <|
  (l_iald (show gPG 10 999 = some (.iaload) by decide +kernel) ).trans <| bd_cg fun x3 hx3 =>
  (l_aload_n (show gPG 10 1000 = some (.aload_n 0) by decide +kernel) rfl h0).trans <|
  (l_iload_n (show gPG 10 1001 = some (.iload_n 3) by decide +kernel) rfl).trans <|
  (l_iconst (show gPG 10 1002 = some (.iconst 4) by decide +kernel) (c := 4) (by decide +kernel)).trans <|
  (l_iadd (show gPG 10 1003 = some (.iadd) by decide +kernel) ).trans <|
  (l_iald (show gPG 10 1004 = some (.iaload) by decide +kernel) ).trans <| bd_cg fun x4 hx4 =>
  l_callV (u := 1) (v := (.ref a2)) (as := [.int x1, .int x2, .int x3, .int x4]) (show gPG 10 1005 = some (jinvI 1 106) by decide +kernel) (by decide) (cc := 255) (na := 5) (kd := 13) (q4 := 0) (z := 10) (rest := [.int s0]) (by decide +kernel) (by decide +kernel)  rfl (show (5 : Nat) ≤ 6 by decide) rfl (csi cs0) (by decide +kernel) (cai (cai (cai (cai (cav jr_ref ca0)))))
theorem b10_1008 (d : Nat) (μ : jM) (r0 : Value) (a1 : Nat) (a2 : Nat) (i3 : Int32) (s0 : Int32) (s1 : Int32) (h0 : jisref r0 = true) : jR d 10 1008 [r0, (.ref a1), (.ref a2), .int i3] [.int s1, .int s0] μ = (if s0 = s1 then jR d 10 1254 [r0, (.ref a1), (.ref a2), .int i3] [] μ else some (some (.int 0), μ)) :=
  (l_cmp (show gPG 10 1008 = some (.if_icmp .eq 246) by decide +kernel) (t := 1254) (by decide +kernel)).trans <| jm_eq.trans <| ite_cg (
  rfl) (
  (l_iconst (show gPG 10 1011 = some (.iconst 0) by decide +kernel) (c := 0) (by decide +kernel)).trans <|
  l_iretK (show gPG 10 1012 = some (.ireturn) by decide +kernel) (by decide +kernel))
theorem b10_1013 (d : Nat) (μ : jM) (r0 : Value) (a1 : Nat) (a2 : Nat) (i3 : Int32) (h0 : jisref r0 = true) : jR (d + 1) 10 1013 [r0, (.ref a1), (.ref a2), .int i3] [] μ = (jaI μ r0 (i3 + 1)).bind fun x1 => (jaI μ r0 (i3 + 2)).bind fun x2 => (jaI μ r0 (i3 + 3)).bind fun x3 => (if jrecv μ 12 ((.ref a1)) = true then (jC d 51 [(.ref a1), .int x1, .int x2, .int x3] μ).bind fun p4 => jR (d + 1) 10 1032 [r0, (.ref a1), (.ref a2), .int i3] (p4.1.toList ++ []) p4.2 else none) :=
  (l_aload_n (show gPG 10 1013 = some (.aload_n 1) by decide +kernel) rfl jr_ref).trans <|
  (l_aload_n (show gPG 10 1014 = some (.aload_n 0) by decide +kernel) rfl h0).trans <|
  (l_iload_n (show gPG 10 1015 = some (.iload_n 3) by decide +kernel) rfl).trans <|
  (l_iconst (show gPG 10 1016 = some (.iconst 1) by decide +kernel) (c := 1) (by decide +kernel)).trans <|
  (l_iadd (show gPG 10 1017 = some (.iadd) by decide +kernel) ).trans <|
  (l_iald (show gPG 10 1018 = some (.iaload) by decide +kernel) ).trans <| bd_cg fun x1 hx1 =>
  (l_aload_n (show gPG 10 1019 = some (.aload_n 0) by decide +kernel) rfl h0).trans <|
  (l_iload_n (show gPG 10 1020 = some (.iload_n 3) by decide +kernel) rfl).trans <|
  (l_iconst (show gPG 10 1021 = some (.iconst 2) by decide +kernel) (c := 2) (by decide +kernel)).trans <|
  (l_iadd (show gPG 10 1022 = some (.iadd) by decide +kernel) ).trans <|
  (l_iald (show gPG 10 1023 = some (.iaload) by decide +kernel) ).trans <| bd_cg fun x2 hx2 =>
  (l_aload_n (show gPG 10 1024 = some (.aload_n 0) by decide +kernel) rfl h0).trans <|
  (l_iload_n (show gPG 10 1025 = some (.iload_n 3) by decide +kernel) rfl).trans <|
  (l_iconst (show gPG 10 1026 = some (.iconst 3) by decide +kernel) (c := 3) (by decide +kernel)).trans <|
  (l_iadd (show gPG 10 1027 = some (.iadd) by decide +kernel) ).trans <|
  (l_iald (show gPG 10 1028 = some (.iaload) by decide +kernel) ).trans <| bd_cg fun x3 hx3 =>
  l_callV (u := 1) (v := (.ref a1)) (as := [.int x1, .int x2, .int x3]) (show gPG 10 1029 = some (jinvI 1 107) by decide +kernel) (by decide) (cc := 51) (na := 4) (kd := 12) (q4 := 0) (z := 10) (rest := []) (by decide +kernel) (by decide +kernel)  rfl (show (4 : Nat) ≤ 4 by decide) rfl cs0 (by decide +kernel) (cai (cai (cai (cav jr_ref ca0))))
theorem b10_1032 (d : Nat) (μ : jM) (r0 : Value) (a1 : Nat) (a2 : Nat) (i3 : Int32) (s0 : Int32) (h0 : jisref r0 = true) : jR (d + 1) 10 1032 [r0, (.ref a1), (.ref a2), .int i3] [.int s0] μ = (jaI μ r0 (i3 + 1)).bind fun x1 => (jaI μ r0 (i3 + 2)).bind fun x2 => (jaI μ r0 (i3 + 3)).bind fun x3 => (if jrecv μ 13 ((.ref a2)) = true then (jC d 258 [(.ref a2), .int x1, .int x2, .int x3] μ).bind fun p4 => jR (d + 1) 10 1051 [r0, (.ref a1), (.ref a2), .int i3] (p4.1.toList ++ [.int s0]) p4.2 else none) :=
  (l_aload_n (show gPG 10 1032 = some (.aload_n 2) by decide +kernel) rfl jr_ref).trans <|
  (l_aload_n (show gPG 10 1033 = some (.aload_n 0) by decide +kernel) rfl h0).trans <|
  (l_iload_n (show gPG 10 1034 = some (.iload_n 3) by decide +kernel) rfl).trans <|
  (l_iconst (show gPG 10 1035 = some (.iconst 1) by decide +kernel) (c := 1) (by decide +kernel)).trans <|
  (l_iadd (show gPG 10 1036 = some (.iadd) by decide +kernel) ).trans <|
  (l_iald (show gPG 10 1037 = some (.iaload) by decide +kernel) ).trans <| bd_cg fun x1 hx1 =>
  (l_aload_n (show gPG 10 1038 = some (.aload_n 0) by decide +kernel) rfl h0).trans <|
  (l_iload_n (show gPG 10 1039 = some (.iload_n 3) by decide +kernel) rfl).trans <|
  (l_iconst (show gPG 10 1040 = some (.iconst 2) by decide +kernel) (c := 2) (by decide +kernel)).trans <|
  (l_iadd (show gPG 10 1041 = some (.iadd) by decide +kernel) ).trans <|
  (l_iald (show gPG 10 1042 = some (.iaload) by decide +kernel) ).trans <| bd_cg fun x2 hx2 =>
  (l_aload_n (show gPG 10 1043 = some (.aload_n 0) by decide +kernel) rfl h0).trans <|
  (l_iload_n (show gPG 10 1044 = some (.iload_n 3) by decide +kernel) rfl).trans <|
  (l_iconst (show gPG 10 1045 = some (.iconst 3) by decide +kernel) (c := 3) (by decide +kernel)).trans <|
  (l_iadd (show gPG 10 1046 = some (.iadd) by decide +kernel) ).trans <|
  (l_iald (show gPG 10 1047 = some (.iaload) by decide +kernel) ).trans <| bd_cg fun x3 hx3 =>
  l_callV (u := 1) (v := (.ref a2)) (as := [.int x1, .int x2, .int x3]) (show gPG 10 1048 = some (jinvI 1 110) by decide +kernel) (by decide) (cc := 258) (na := 4) (kd := 13) (q4 := 0) (z := 10) (rest := [.int s0]) (by decide +kernel) (by decide +kernel)  rfl (show (4 : Nat) ≤ 5 by decide) rfl (csi cs0) (by decide +kernel) (cai (cai (cai (cav jr_ref ca0))))
theorem b10_1051 (d : Nat) (μ : jM) (r0 : Value) (a1 : Nat) (a2 : Nat) (i3 : Int32) (s0 : Int32) (s1 : Int32) (h0 : jisref r0 = true) : jR d 10 1051 [r0, (.ref a1), (.ref a2), .int i3] [.int s1, .int s0] μ = (if s0 = s1 then jR d 10 1254 [r0, (.ref a1), (.ref a2), .int i3] [] μ else some (some (.int 0), μ)) :=
  (l_cmp (show gPG 10 1051 = some (.if_icmp .eq 203) by decide +kernel) (t := 1254) (by decide +kernel)).trans <| jm_eq.trans <| ite_cg (
  rfl) (
  (l_iconst (show gPG 10 1054 = some (.iconst 0) by decide +kernel) (c := 0) (by decide +kernel)).trans <|
  l_iretK (show gPG 10 1055 = some (.ireturn) by decide +kernel) (by decide +kernel))
theorem b10_1056 (d : Nat) (μ : jM) (r0 : Value) (a1 : Nat) (a2 : Nat) (i3 : Int32) (h0 : jisref r0 = true) : jR (d + 1) 10 1056 [r0, (.ref a1), (.ref a2), .int i3] [] μ = (if jrecv μ 12 ((.ref a1)) = true then (jC d 52 [(.ref a1)] μ).bind fun p1 => jR (d + 1) 10 1060 [r0, (.ref a1), (.ref a2), .int i3] (p1.1.toList ++ []) p1.2 else none) :=
  (l_aload_n (show gPG 10 1056 = some (.aload_n 1) by decide +kernel) rfl jr_ref).trans <|
  l_callV (u := 1) (v := (.ref a1)) (as := []) (show gPG 10 1057 = some (jinvI 1 111) by decide +kernel) (by decide) (cc := 52) (na := 1) (kd := 12) (q4 := 0) (z := 10) (rest := []) (by decide +kernel) (by decide +kernel)  rfl (show (1 : Nat) ≤ 1 by decide) rfl cs0 (by decide +kernel) (cav jr_ref ca0)
theorem b10_1060 (d : Nat) (μ : jM) (r0 : Value) (a1 : Nat) (a2 : Nat) (i3 : Int32) (s0 : Int32) (h0 : jisref r0 = true) : jR (d + 1) 10 1060 [r0, (.ref a1), (.ref a2), .int i3] [.int s0] μ = (if jrecv μ 13 ((.ref a2)) = true then (jC d 259 [(.ref a2)] μ).bind fun p1 => jR (d + 1) 10 1064 [r0, (.ref a1), (.ref a2), .int i3] (p1.1.toList ++ [.int s0]) p1.2 else none) :=
  (l_aload_n (show gPG 10 1060 = some (.aload_n 2) by decide +kernel) rfl jr_ref).trans <|
  l_callV (u := 1) (v := (.ref a2)) (as := []) (show gPG 10 1061 = some (jinvI 1 114) by decide +kernel) (by decide) (cc := 259) (na := 1) (kd := 13) (q4 := 0) (z := 10) (rest := [.int s0]) (by decide +kernel) (by decide +kernel)  rfl (show (1 : Nat) ≤ 2 by decide) rfl (csi cs0) (by decide +kernel) (cav jr_ref ca0)
theorem b10_1064 (d : Nat) (μ : jM) (r0 : Value) (a1 : Nat) (a2 : Nat) (i3 : Int32) (s0 : Int32) (s1 : Int32) (h0 : jisref r0 = true) : jR d 10 1064 [r0, (.ref a1), (.ref a2), .int i3] [.int s1, .int s0] μ = (if s0 = s1 then jR d 10 1254 [r0, (.ref a1), (.ref a2), .int i3] [] μ else some (some (.int 0), μ)) :=
  (l_cmp (show gPG 10 1064 = some (.if_icmp .eq 190) by decide +kernel) (t := 1254) (by decide +kernel)).trans <| jm_eq.trans <| ite_cg (
  rfl) (
  (l_iconst (show gPG 10 1067 = some (.iconst 0) by decide +kernel) (c := 0) (by decide +kernel)).trans <|
  l_iretK (show gPG 10 1068 = some (.ireturn) by decide +kernel) (by decide +kernel))
theorem b10_1069 (d : Nat) (μ : jM) (r0 : Value) (a1 : Nat) (a2 : Nat) (i3 : Int32) (h0 : jisref r0 = true) : jR (d + 1) 10 1069 [r0, (.ref a1), (.ref a2), .int i3] [] μ = (if jrecv μ 12 ((.ref a1)) = true then (jC d 53 [(.ref a1)] μ).bind fun p1 => jR (d + 1) 10 1073 [r0, (.ref a1), (.ref a2), .int i3] (p1.1.toList ++ []) p1.2 else none) :=
  (l_aload_n (show gPG 10 1069 = some (.aload_n 1) by decide +kernel) rfl jr_ref).trans <|
  l_callV (u := 1) (v := (.ref a1)) (as := []) (show gPG 10 1070 = some (jinvI 1 115) by decide +kernel) (by decide) (cc := 53) (na := 1) (kd := 12) (q4 := 0) (z := 10) (rest := []) (by decide +kernel) (by decide +kernel)  rfl (show (1 : Nat) ≤ 1 by decide) rfl cs0 (by decide +kernel) (cav jr_ref ca0)
theorem b10_1073 (d : Nat) (μ : jM) (r0 : Value) (a1 : Nat) (a2 : Nat) (i3 : Int32) (s0 : Int32) (h0 : jisref r0 = true) : jR (d + 1) 10 1073 [r0, (.ref a1), (.ref a2), .int i3] [.int s0] μ = (if jrecv μ 13 ((.ref a2)) = true then (jC d 260 [(.ref a2)] μ).bind fun p1 => jR (d + 1) 10 1077 [r0, (.ref a1), (.ref a2), .int i3] (p1.1.toList ++ [.int s0]) p1.2 else none) :=
  (l_aload_n (show gPG 10 1073 = some (.aload_n 2) by decide +kernel) rfl jr_ref).trans <|
  l_callV (u := 1) (v := (.ref a2)) (as := []) (show gPG 10 1074 = some (jinvI 1 118) by decide +kernel) (by decide) (cc := 260) (na := 1) (kd := 13) (q4 := 0) (z := 10) (rest := [.int s0]) (by decide +kernel) (by decide +kernel)  rfl (show (1 : Nat) ≤ 2 by decide) rfl (csi cs0) (by decide +kernel) (cav jr_ref ca0)
theorem b10_1077 (d : Nat) (μ : jM) (r0 : Value) (a1 : Nat) (a2 : Nat) (i3 : Int32) (s0 : Int32) (s1 : Int32) (h0 : jisref r0 = true) : jR d 10 1077 [r0, (.ref a1), (.ref a2), .int i3] [.int s1, .int s0] μ = (if s0 = s1 then jR d 10 1254 [r0, (.ref a1), (.ref a2), .int i3] [] μ else some (some (.int 0), μ)) :=
  (l_cmp (show gPG 10 1077 = some (.if_icmp .eq 177) by decide +kernel) (t := 1254) (by decide +kernel)).trans <| jm_eq.trans <| ite_cg (
  rfl) (
  (l_iconst (show gPG 10 1080 = some (.iconst 0) by decide +kernel) (c := 0) (by decide +kernel)).trans <|
  l_iretK (show gPG 10 1081 = some (.ireturn) by decide +kernel) (by decide +kernel))
theorem b10_1082 (d : Nat) (μ : jM) (r0 : Value) (a1 : Nat) (a2 : Nat) (i3 : Int32) (h0 : jisref r0 = true) : jR (d + 1) 10 1082 [r0, (.ref a1), (.ref a2), .int i3] [] μ = (jaI μ r0 (i3 + 1)).bind fun x1 => (if jrecv μ 12 ((.ref a1)) = true then (jC d 54 [(.ref a1), .int x1] μ).bind fun p2 => jR (d + 1) 10 1091 [r0, (.ref a1), (.ref a2), .int i3] (p2.1.toList ++ []) p2.2 else none) :=
  (l_aload_n (show gPG 10 1082 = some (.aload_n 1) by decide +kernel) rfl jr_ref).trans <|
  (l_aload_n (show gPG 10 1083 = some (.aload_n 0) by decide +kernel) rfl h0).trans <|
  (l_iload_n (show gPG 10 1084 = some (.iload_n 3) by decide +kernel) rfl).trans <|
  (l_iconst (show gPG 10 1085 = some (.iconst 1) by decide +kernel) (c := 1) (by decide +kernel)).trans <|
  (l_iadd (show gPG 10 1086 = some (.iadd) by decide +kernel) ).trans <|
  (l_iald (show gPG 10 1087 = some (.iaload) by decide +kernel) ).trans <| bd_cg fun x1 hx1 =>
  l_callV (u := 1) (v := (.ref a1)) (as := [.int x1]) (show gPG 10 1088 = some (jinvI 1 119) by decide +kernel) (by decide) (cc := 54) (na := 2) (kd := 12) (q4 := 0) (z := 10) (rest := []) (by decide +kernel) (by decide +kernel)  rfl (show (2 : Nat) ≤ 2 by decide) rfl cs0 (by decide +kernel) (cai (cav jr_ref ca0))
theorem b10_1091 (d : Nat) (μ : jM) (r0 : Value) (a1 : Nat) (a2 : Nat) (i3 : Int32) (s0 : Int32) (h0 : jisref r0 = true) : jR (d + 1) 10 1091 [r0, (.ref a1), (.ref a2), .int i3] [.int s0] μ = (jaI μ r0 (i3 + 1)).bind fun x1 => (if jrecv μ 13 ((.ref a2)) = true then (jC d 261 [(.ref a2), .int x1] μ).bind fun p2 => jR (d + 1) 10 1100 [r0, (.ref a1), (.ref a2), .int i3] (p2.1.toList ++ [.int s0]) p2.2 else none) :=
  (l_aload_n (show gPG 10 1091 = some (.aload_n 2) by decide +kernel) rfl jr_ref).trans <|
  (l_aload_n (show gPG 10 1092 = some (.aload_n 0) by decide +kernel) rfl h0).trans <|
  (l_iload_n (show gPG 10 1093 = some (.iload_n 3) by decide +kernel) rfl).trans <|
  (l_iconst (show gPG 10 1094 = some (.iconst 1) by decide +kernel) (c := 1) (by decide +kernel)).trans <|
  (l_iadd (show gPG 10 1095 = some (.iadd) by decide +kernel) ).trans <|
  (l_iald (show gPG 10 1096 = some (.iaload) by decide +kernel) ).trans <| bd_cg fun x1 hx1 =>
  l_callV (u := 1) (v := (.ref a2)) (as := [.int x1]) (show gPG 10 1097 = some (jinvI 1 123) by decide +kernel) (by decide) (cc := 261) (na := 2) (kd := 13) (q4 := 0) (z := 10) (rest := [.int s0]) (by decide +kernel) (by decide +kernel)  rfl (show (2 : Nat) ≤ 3 by decide) rfl (csi cs0) (by decide +kernel) (cai (cav jr_ref ca0))
theorem b10_1100 (d : Nat) (μ : jM) (r0 : Value) (a1 : Nat) (a2 : Nat) (i3 : Int32) (s0 : Int32) (s1 : Int32) (h0 : jisref r0 = true) : jR d 10 1100 [r0, (.ref a1), (.ref a2), .int i3] [.int s1, .int s0] μ = (if s0 = s1 then jR d 10 1254 [r0, (.ref a1), (.ref a2), .int i3] [] μ else some (some (.int 0), μ)) :=
  (l_cmp (show gPG 10 1100 = some (.if_icmp .eq 154) by decide +kernel) (t := 1254) (by decide +kernel)).trans <| jm_eq.trans <| ite_cg (
  rfl) (
  (l_iconst (show gPG 10 1103 = some (.iconst 0) by decide +kernel) (c := 0) (by decide +kernel)).trans <|
  l_iretK (show gPG 10 1104 = some (.ireturn) by decide +kernel) (by decide +kernel))
theorem b10_1105 (d : Nat) (μ : jM) (r0 : Value) (a1 : Nat) (a2 : Nat) (i3 : Int32) (h0 : jisref r0 = true) : jR (d + 1) 10 1105 [r0, (.ref a1), (.ref a2), .int i3] [] μ = (jaI μ r0 (i3 + 1)).bind fun x1 => (jaI μ r0 (i3 + 2)).bind fun x2 => (jaI μ r0 (i3 + 3)).bind fun x3 => (if jrecv μ 12 ((.ref a1)) = true then (jC d 55 [(.ref a1), .int x1, .int x2, .int x3] μ).bind fun p4 => jR (d + 1) 10 1124 [r0, (.ref a1), (.ref a2), .int i3] (p4.1.toList ++ []) p4.2 else none) :=
  (l_aload_n (show gPG 10 1105 = some (.aload_n 1) by decide +kernel) rfl jr_ref).trans <|
  (l_aload_n (show gPG 10 1106 = some (.aload_n 0) by decide +kernel) rfl h0).trans <|
  (l_iload_n (show gPG 10 1107 = some (.iload_n 3) by decide +kernel) rfl).trans <|
  (l_iconst (show gPG 10 1108 = some (.iconst 1) by decide +kernel) (c := 1) (by decide +kernel)).trans <|
  (l_iadd (show gPG 10 1109 = some (.iadd) by decide +kernel) ).trans <|
  (l_iald (show gPG 10 1110 = some (.iaload) by decide +kernel) ).trans <| bd_cg fun x1 hx1 =>
  (l_aload_n (show gPG 10 1111 = some (.aload_n 0) by decide +kernel) rfl h0).trans <|
  (l_iload_n (show gPG 10 1112 = some (.iload_n 3) by decide +kernel) rfl).trans <|
  (l_iconst (show gPG 10 1113 = some (.iconst 2) by decide +kernel) (c := 2) (by decide +kernel)).trans <|
  (l_iadd (show gPG 10 1114 = some (.iadd) by decide +kernel) ).trans <|
  (l_iald (show gPG 10 1115 = some (.iaload) by decide +kernel) ).trans <| bd_cg fun x2 hx2 =>
  (l_aload_n (show gPG 10 1116 = some (.aload_n 0) by decide +kernel) rfl h0).trans <|
  (l_iload_n (show gPG 10 1117 = some (.iload_n 3) by decide +kernel) rfl).trans <|
  (l_iconst (show gPG 10 1118 = some (.iconst 3) by decide +kernel) (c := 3) (by decide +kernel)).trans <|
  (l_iadd (show gPG 10 1119 = some (.iadd) by decide +kernel) ).trans <|
  (l_iald (show gPG 10 1120 = some (.iaload) by decide +kernel) ).trans <| bd_cg fun x3 hx3 =>
  l_callV (u := 1) (v := (.ref a1)) (as := [.int x1, .int x2, .int x3]) (show gPG 10 1121 = some (jinvI 1 124) by decide +kernel) (by decide) (cc := 55) (na := 4) (kd := 12) (q4 := 0) (z := 10) (rest := []) (by decide +kernel) (by decide +kernel)  rfl (show (4 : Nat) ≤ 4 by decide) rfl cs0 (by decide +kernel) (cai (cai (cai (cav jr_ref ca0))))
theorem b10_1124 (d : Nat) (μ : jM) (r0 : Value) (a1 : Nat) (a2 : Nat) (i3 : Int32) (s0 : Int32) (h0 : jisref r0 = true) : jR (d + 1) 10 1124 [r0, (.ref a1), (.ref a2), .int i3] [.int s0] μ = (jaI μ r0 (i3 + 1)).bind fun x1 => (jaI μ r0 (i3 + 2)).bind fun x2 => (jaI μ r0 (i3 + 3)).bind fun x3 => (if jrecv μ 13 ((.ref a2)) = true then (jC d 262 [(.ref a2), .int x1, .int x2, .int x3] μ).bind fun p4 => jR (d + 1) 10 1143 [r0, (.ref a1), (.ref a2), .int i3] (p4.1.toList ++ [.int s0]) p4.2 else none) :=
  (l_aload_n (show gPG 10 1124 = some (.aload_n 2) by decide +kernel) rfl jr_ref).trans <|
  (l_aload_n (show gPG 10 1125 = some (.aload_n 0) by decide +kernel) rfl h0).trans <|
  (l_iload_n (show gPG 10 1126 = some (.iload_n 3) by decide +kernel) rfl).trans <|
  (l_iconst (show gPG 10 1127 = some (.iconst 1) by decide +kernel) (c := 1) (by decide +kernel)).trans <|
  (l_iadd (show gPG 10 1128 = some (.iadd) by decide +kernel) ).trans <|
  (l_iald (show gPG 10 1129 = some (.iaload) by decide +kernel) ).trans <| bd_cg fun x1 hx1 =>
  (l_aload_n (show gPG 10 1130 = some (.aload_n 0) by decide +kernel) rfl h0).trans <|
  (l_iload_n (show gPG 10 1131 = some (.iload_n 3) by decide +kernel) rfl).trans <|
  (l_iconst (show gPG 10 1132 = some (.iconst 2) by decide +kernel) (c := 2) (by decide +kernel)).trans <|
  (l_iadd (show gPG 10 1133 = some (.iadd) by decide +kernel) ).trans <|
  (l_iald (show gPG 10 1134 = some (.iaload) by decide +kernel) ).trans <| bd_cg fun x2 hx2 =>
  (l_aload_n (show gPG 10 1135 = some (.aload_n 0) by decide +kernel) rfl h0).trans <|
  (l_iload_n (show gPG 10 1136 = some (.iload_n 3) by decide +kernel) rfl).trans <|
  (l_iconst (show gPG 10 1137 = some (.iconst 3) by decide +kernel) (c := 3) (by decide +kernel)).trans <|
  (l_iadd (show gPG 10 1138 = some (.iadd) by decide +kernel) ).trans <|
  (l_iald (show gPG 10 1139 = some (.iaload) by decide +kernel) ).trans <| bd_cg fun x3 hx3 =>
  l_callV (u := 1) (v := (.ref a2)) (as := [.int x1, .int x2, .int x3]) (show gPG 10 1140 = some (jinvI 1 127) by decide +kernel) (by decide) (cc := 262) (na := 4) (kd := 13) (q4 := 0) (z := 10) (rest := [.int s0]) (by decide +kernel) (by decide +kernel)  rfl (show (4 : Nat) ≤ 5 by decide) rfl (csi cs0) (by decide +kernel) (cai (cai (cai (cav jr_ref ca0))))
theorem b10_1143 (d : Nat) (μ : jM) (r0 : Value) (a1 : Nat) (a2 : Nat) (i3 : Int32) (s0 : Int32) (s1 : Int32) (h0 : jisref r0 = true) : jR d 10 1143 [r0, (.ref a1), (.ref a2), .int i3] [.int s1, .int s0] μ = (if s0 = s1 then jR d 10 1254 [r0, (.ref a1), (.ref a2), .int i3] [] μ else some (some (.int 0), μ)) :=
  (l_cmp (show gPG 10 1143 = some (.if_icmp .eq 111) by decide +kernel) (t := 1254) (by decide +kernel)).trans <| jm_eq.trans <| ite_cg (
  rfl) (
  (l_iconst (show gPG 10 1146 = some (.iconst 0) by decide +kernel) (c := 0) (by decide +kernel)).trans <|
  l_iretK (show gPG 10 1147 = some (.ireturn) by decide +kernel) (by decide +kernel))
theorem b10_1148 (d : Nat) (μ : jM) (r0 : Value) (a1 : Nat) (a2 : Nat) (i3 : Int32) (h0 : jisref r0 = true) : jR (d + 1) 10 1148 [r0, (.ref a1), (.ref a2), .int i3] [] μ = (jaI μ r0 (i3 + 1)).bind fun x1 => (jaI μ r0 (i3 + 2)).bind fun x2 => (jaI μ r0 (i3 + 3)).bind fun x3 => (if jrecv μ 12 ((.ref a1)) = true then (jC d 56 [(.ref a1), .int x1, .int x2, .int x3] μ).bind fun p4 => jR (d + 1) 10 1167 [r0, (.ref a1), (.ref a2), .int i3] (p4.1.toList ++ []) p4.2 else none) :=
  (l_aload_n (show gPG 10 1148 = some (.aload_n 1) by decide +kernel) rfl jr_ref).trans <|
  (l_aload_n (show gPG 10 1149 = some (.aload_n 0) by decide +kernel) rfl h0).trans <|
  (l_iload_n (show gPG 10 1150 = some (.iload_n 3) by decide +kernel) rfl).trans <|
  (l_iconst (show gPG 10 1151 = some (.iconst 1) by decide +kernel) (c := 1) (by decide +kernel)).trans <|
  (l_iadd (show gPG 10 1152 = some (.iadd) by decide +kernel) ).trans <|
  (l_iald (show gPG 10 1153 = some (.iaload) by decide +kernel) ).trans <| bd_cg fun x1 hx1 =>
  (l_aload_n (show gPG 10 1154 = some (.aload_n 0) by decide +kernel) rfl h0).trans <|
  (l_iload_n (show gPG 10 1155 = some (.iload_n 3) by decide +kernel) rfl).trans <|
  (l_iconst (show gPG 10 1156 = some (.iconst 2) by decide +kernel) (c := 2) (by decide +kernel)).trans <|
  (l_iadd (show gPG 10 1157 = some (.iadd) by decide +kernel) ).trans <|
  (l_iald (show gPG 10 1158 = some (.iaload) by decide +kernel) ).trans <| bd_cg fun x2 hx2 =>
  (l_aload_n (show gPG 10 1159 = some (.aload_n 0) by decide +kernel) rfl h0).trans <|
  (l_iload_n (show gPG 10 1160 = some (.iload_n 3) by decide +kernel) rfl).trans <|
  (l_iconst (show gPG 10 1161 = some (.iconst 3) by decide +kernel) (c := 3) (by decide +kernel)).trans <|
  (l_iadd (show gPG 10 1162 = some (.iadd) by decide +kernel) ).trans <|
  (l_iald (show gPG 10 1163 = some (.iaload) by decide +kernel) ).trans <| bd_cg fun x3 hx3 =>
  l_callV (u := 1) (v := (.ref a1)) (as := [.int x1, .int x2, .int x3]) (show gPG 10 1164 = some (jinvI 1 128) by decide +kernel) (by decide) (cc := 56) (na := 4) (kd := 12) (q4 := 0) (z := 10) (rest := []) (by decide +kernel) (by decide +kernel)  rfl (show (4 : Nat) ≤ 4 by decide) rfl cs0 (by decide +kernel) (cai (cai (cai (cav jr_ref ca0))))
theorem b10_1167 (d : Nat) (μ : jM) (r0 : Value) (a1 : Nat) (a2 : Nat) (i3 : Int32) (s0 : Int32) (h0 : jisref r0 = true) : jR (d + 1) 10 1167 [r0, (.ref a1), (.ref a2), .int i3] [.int s0] μ = (jaI μ r0 (i3 + 1)).bind fun x1 => (jaI μ r0 (i3 + 2)).bind fun x2 => (jaI μ r0 (i3 + 3)).bind fun x3 => (if jrecv μ 13 ((.ref a2)) = true then (jC d 263 [(.ref a2), .int x1, .int x2, .int x3] μ).bind fun p4 => jR (d + 1) 10 1186 [r0, (.ref a1), (.ref a2), .int i3] (p4.1.toList ++ [.int s0]) p4.2 else none) :=
  (l_aload_n (show gPG 10 1167 = some (.aload_n 2) by decide +kernel) rfl jr_ref).trans <|
  (l_aload_n (show gPG 10 1168 = some (.aload_n 0) by decide +kernel) rfl h0).trans <|
  (l_iload_n (show gPG 10 1169 = some (.iload_n 3) by decide +kernel) rfl).trans <|
  (l_iconst (show gPG 10 1170 = some (.iconst 1) by decide +kernel) (c := 1) (by decide +kernel)).trans <|
  (l_iadd (show gPG 10 1171 = some (.iadd) by decide +kernel) ).trans <|
  (l_iald (show gPG 10 1172 = some (.iaload) by decide +kernel) ).trans <| bd_cg fun x1 hx1 =>
  (l_aload_n (show gPG 10 1173 = some (.aload_n 0) by decide +kernel) rfl h0).trans <|
  (l_iload_n (show gPG 10 1174 = some (.iload_n 3) by decide +kernel) rfl).trans <|
  (l_iconst (show gPG 10 1175 = some (.iconst 2) by decide +kernel) (c := 2) (by decide +kernel)).trans <|
  (l_iadd (show gPG 10 1176 = some (.iadd) by decide +kernel) ).trans <|
  (l_iald (show gPG 10 1177 = some (.iaload) by decide +kernel) ).trans <| bd_cg fun x2 hx2 =>
  (l_aload_n (show gPG 10 1178 = some (.aload_n 0) by decide +kernel) rfl h0).trans <|
  (l_iload_n (show gPG 10 1179 = some (.iload_n 3) by decide +kernel) rfl).trans <|
  (l_iconst (show gPG 10 1180 = some (.iconst 3) by decide +kernel) (c := 3) (by decide +kernel)).trans <|
  (l_iadd (show gPG 10 1181 = some (.iadd) by decide +kernel) ).trans <|
  (l_iald (show gPG 10 1182 = some (.iaload) by decide +kernel) ).trans <| bd_cg fun x3 hx3 =>
  l_callV (u := 1) (v := (.ref a2)) (as := [.int x1, .int x2, .int x3]) (show gPG 10 1183 = some (jinvI 1 131) by decide +kernel) (by decide) (cc := 263) (na := 4) (kd := 13) (q4 := 0) (z := 10) (rest := [.int s0]) (by decide +kernel) (by decide +kernel)  rfl (show (4 : Nat) ≤ 5 by decide) rfl (csi cs0) (by decide +kernel) (cai (cai (cai (cav jr_ref ca0))))
theorem b10_1186 (d : Nat) (μ : jM) (r0 : Value) (a1 : Nat) (a2 : Nat) (i3 : Int32) (s0 : Int32) (s1 : Int32) (h0 : jisref r0 = true) : jR d 10 1186 [r0, (.ref a1), (.ref a2), .int i3] [.int s1, .int s0] μ = (if s0 = s1 then jR d 10 1254 [r0, (.ref a1), (.ref a2), .int i3] [] μ else some (some (.int 0), μ)) :=
  (l_cmp (show gPG 10 1186 = some (.if_icmp .eq 68) by decide +kernel) (t := 1254) (by decide +kernel)).trans <| jm_eq.trans <| ite_cg (
  rfl) (
  (l_iconst (show gPG 10 1189 = some (.iconst 0) by decide +kernel) (c := 0) (by decide +kernel)).trans <|
  l_iretK (show gPG 10 1190 = some (.ireturn) by decide +kernel) (by decide +kernel))
theorem b10_1191 (d : Nat) (μ : jM) (r0 : Value) (a1 : Nat) (a2 : Nat) (i3 : Int32) (h0 : jisref r0 = true) : jR (d + 1) 10 1191 [r0, (.ref a1), (.ref a2), .int i3] [] μ = (jaI μ r0 (i3 + 1)).bind fun x1 => (jaI μ r0 (i3 + 2)).bind fun x2 => (jaI μ r0 (i3 + 3)).bind fun x3 => (jaI μ r0 (i3 + 4)).bind fun x4 => (jaI μ r0 (i3 + 5)).bind fun x5 => (if jrecv μ 12 ((.ref a1)) = true then (jC d 57 [(.ref a1), .int x1, .int x2, .int x3, .int x4, .int x5] μ).bind fun p6 => jR (d + 1) 10 1220 [r0, (.ref a1), (.ref a2), .int i3] (p6.1.toList ++ []) p6.2 else none) :=
  (l_aload_n (show gPG 10 1191 = some (.aload_n 1) by decide +kernel) rfl jr_ref).trans <|
  (l_aload_n (show gPG 10 1192 = some (.aload_n 0) by decide +kernel) rfl h0).trans <|
  (l_iload_n (show gPG 10 1193 = some (.iload_n 3) by decide +kernel) rfl).trans <|
  (l_iconst (show gPG 10 1194 = some (.iconst 1) by decide +kernel) (c := 1) (by decide +kernel)).trans <|
  (l_iadd (show gPG 10 1195 = some (.iadd) by decide +kernel) ).trans <|
  (l_iald (show gPG 10 1196 = some (.iaload) by decide +kernel) ).trans <| bd_cg fun x1 hx1 =>
  (l_aload_n (show gPG 10 1197 = some (.aload_n 0) by decide +kernel) rfl h0).trans <|
  (l_iload_n (show gPG 10 1198 = some (.iload_n 3) by decide +kernel) rfl).trans <|
  (l_iconst (show gPG 10 1199 = some (.iconst 2) by decide +kernel) (c := 2) (by decide +kernel)).trans <|
  (l_iadd (show gPG 10 1200 = some (.iadd) by decide +kernel) ).trans <|
  (l_iald (show gPG 10 1201 = some (.iaload) by decide +kernel) ).trans <| bd_cg fun x2 hx2 =>
  (l_aload_n (show gPG 10 1202 = some (.aload_n 0) by decide +kernel) rfl h0).trans <|
  (l_iload_n (show gPG 10 1203 = some (.iload_n 3) by decide +kernel) rfl).trans <|
  (l_iconst (show gPG 10 1204 = some (.iconst 3) by decide +kernel) (c := 3) (by decide +kernel)).trans <|
  (l_iadd (show gPG 10 1205 = some (.iadd) by decide +kernel) ).trans <|
  (l_iald (show gPG 10 1206 = some (.iaload) by decide +kernel) ).trans <| bd_cg fun x3 hx3 =>
  (l_aload_n (show gPG 10 1207 = some (.aload_n 0) by decide +kernel) rfl h0).trans <|
  (l_iload_n (show gPG 10 1208 = some (.iload_n 3) by decide +kernel) rfl).trans <|
  (l_iconst (show gPG 10 1209 = some (.iconst 4) by decide +kernel) (c := 4) (by decide +kernel)).trans <|
  (l_iadd (show gPG 10 1210 = some (.iadd) by decide +kernel) ).trans <|
  (l_iald (show gPG 10 1211 = some (.iaload) by decide +kernel) ).trans <| bd_cg fun x4 hx4 =>
  (l_aload_n (show gPG 10 1212 = some (.aload_n 0) by decide +kernel) rfl h0).trans <|
  (l_iload_n (show gPG 10 1213 = some (.iload_n 3) by decide +kernel) rfl).trans <|
  (l_iconst (show gPG 10 1214 = some (.iconst 5) by decide +kernel) (c := 5) (by decide +kernel)).trans <|
  (l_iadd (show gPG 10 1215 = some (.iadd) by decide +kernel) ).trans <|
  (l_iald (show gPG 10 1216 = some (.iaload) by decide +kernel) ).trans <| bd_cg fun x5 hx5 =>
  l_callV (u := 1) (v := (.ref a1)) (as := [.int x1, .int x2, .int x3, .int x4, .int x5]) (show gPG 10 1217 = some (jinvI 1 132) by decide +kernel) (by decide) (cc := 57) (na := 6) (kd := 12) (q4 := 0) (z := 10) (rest := []) (by decide +kernel) (by decide +kernel)  rfl (show (6 : Nat) ≤ 6 by decide) rfl cs0 (by decide +kernel) (cai (cai (cai (cai (cai (cav jr_ref ca0))))))
theorem b10_1220 (d : Nat) (μ : jM) (r0 : Value) (a1 : Nat) (a2 : Nat) (i3 : Int32) (s0 : Int32) (h0 : jisref r0 = true) : jR (d + 1) 10 1220 [r0, (.ref a1), (.ref a2), .int i3] [.int s0] μ = (jaI μ r0 (i3 + 1)).bind fun x1 => (jaI μ r0 (i3 + 2)).bind fun x2 => (jaI μ r0 (i3 + 3)).bind fun x3 => (jaI μ r0 (i3 + 4)).bind fun x4 => (jaI μ r0 (i3 + 5)).bind fun x5 => (if jrecv μ 13 ((.ref a2)) = true then (jC d 264 [(.ref a2), .int x1, .int x2, .int x3, .int x4, .int x5] μ).bind fun p6 => jR (d + 1) 10 1249 [r0, (.ref a1), (.ref a2), .int i3] (p6.1.toList ++ [.int s0]) p6.2 else none) :=
  (l_aload_n (show gPG 10 1220 = some (.aload_n 2) by decide +kernel) rfl jr_ref).trans <|
  (l_aload_n (show gPG 10 1221 = some (.aload_n 0) by decide +kernel) rfl h0).trans <|
  (l_iload_n (show gPG 10 1222 = some (.iload_n 3) by decide +kernel) rfl).trans <|
  (l_iconst (show gPG 10 1223 = some (.iconst 1) by decide +kernel) (c := 1) (by decide +kernel)).trans <|
  (l_iadd (show gPG 10 1224 = some (.iadd) by decide +kernel) ).trans <|
  (l_iald (show gPG 10 1225 = some (.iaload) by decide +kernel) ).trans <| bd_cg fun x1 hx1 =>
  (l_aload_n (show gPG 10 1226 = some (.aload_n 0) by decide +kernel) rfl h0).trans <|
  (l_iload_n (show gPG 10 1227 = some (.iload_n 3) by decide +kernel) rfl).trans <|
  (l_iconst (show gPG 10 1228 = some (.iconst 2) by decide +kernel) (c := 2) (by decide +kernel)).trans <|
  (l_iadd (show gPG 10 1229 = some (.iadd) by decide +kernel) ).trans <|
  (l_iald (show gPG 10 1230 = some (.iaload) by decide +kernel) ).trans <| bd_cg fun x2 hx2 =>
  (l_aload_n (show gPG 10 1231 = some (.aload_n 0) by decide +kernel) rfl h0).trans <|
  (l_iload_n (show gPG 10 1232 = some (.iload_n 3) by decide +kernel) rfl).trans <|
  (l_iconst (show gPG 10 1233 = some (.iconst 3) by decide +kernel) (c := 3) (by decide +kernel)).trans <|
  (l_iadd (show gPG 10 1234 = some (.iadd) by decide +kernel) ).trans <|
  (l_iald (show gPG 10 1235 = some (.iaload) by decide +kernel) ).trans <| bd_cg fun x3 hx3 =>
  (l_aload_n (show gPG 10 1236 = some (.aload_n 0) by decide +kernel) rfl h0).trans <|
  (l_iload_n (show gPG 10 1237 = some (.iload_n 3) by decide +kernel) rfl).trans <|
  (l_iconst (show gPG 10 1238 = some (.iconst 4) by decide +kernel) (c := 4) (by decide +kernel)).trans <|
  (l_iadd (show gPG 10 1239 = some (.iadd) by decide +kernel) ).trans <|
  (l_iald (show gPG 10 1240 = some (.iaload) by decide +kernel) ).trans <| bd_cg fun x4 hx4 =>
  (l_aload_n (show gPG 10 1241 = some (.aload_n 0) by decide +kernel) rfl h0).trans <|
  (l_iload_n (show gPG 10 1242 = some (.iload_n 3) by decide +kernel) rfl).trans <|
  (l_iconst (show gPG 10 1243 = some (.iconst 5) by decide +kernel) (c := 5) (by decide +kernel)).trans <|
  (l_iadd (show gPG 10 1244 = some (.iadd) by decide +kernel) ).trans <|
  (l_iald (show gPG 10 1245 = some (.iaload) by decide +kernel) ).trans <| bd_cg fun x5 hx5 =>
  l_callV (u := 1) (v := (.ref a2)) (as := [.int x1, .int x2, .int x3, .int x4, .int x5]) (show gPG 10 1246 = some (jinvI 1 136) by decide +kernel) (by decide) (cc := 264) (na := 6) (kd := 13) (q4 := 0) (z := 10) (rest := [.int s0]) (by decide +kernel) (by decide +kernel)  rfl (show (6 : Nat) ≤ 7 by decide) rfl (csi cs0) (by decide +kernel) (cai (cai (cai (cai (cai (cav jr_ref ca0))))))
theorem b10_1249 (d : Nat) (μ : jM) (r0 : Value) (a1 : Nat) (a2 : Nat) (i3 : Int32) (s0 : Int32) (s1 : Int32) (h0 : jisref r0 = true) : jR d 10 1249 [r0, (.ref a1), (.ref a2), .int i3] [.int s1, .int s0] μ = (if s0 = s1 then jR d 10 1254 [r0, (.ref a1), (.ref a2), .int i3] [] μ else some (some (.int 0), μ)) :=
  (l_cmp (show gPG 10 1249 = some (.if_icmp .eq 5) by decide +kernel) (t := 1254) (by decide +kernel)).trans <| jm_eq.trans <| ite_cg (
  rfl) (
  (l_iconst (show gPG 10 1252 = some (.iconst 0) by decide +kernel) (c := 0) (by decide +kernel)).trans <|
  l_iretK (show gPG 10 1253 = some (.ireturn) by decide +kernel) (by decide +kernel))
theorem b10_1254 (d : Nat) (μ : jM) (r0 : Value) (a1 : Nat) (a2 : Nat) (i3 : Int32) (h0 : jisref r0 = true) : jR d 10 1254 [r0, (.ref a1), (.ref a2), .int i3] [] μ = jR d 10 18 [r0, (.ref a1), (.ref a2), .int (i3 + 7)] [] μ :=
  (l_iinc (show gPG 10 1254 = some (.iinc 3 7) by decide +kernel) (c := 7) (by decide +kernel) rfl (show _ = ([r0, (.ref a1), (.ref a2), .int (i3 + 7)] : List Value) from rfl)).trans <|
  l_goto (show gPG 10 1257 = some (.goto (-1239)) by decide +kernel) (t := 18) (by decide +kernel)
