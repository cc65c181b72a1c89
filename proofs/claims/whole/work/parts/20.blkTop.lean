/-! THE BLOCKS of GridMerger, laid by program -/
-- Top.init
theorem b11_0 (d : Nat) (μ : jM) (a : Nat) : jR (d + 1) 11 0 [.ref a, .retAddr 0] [] μ = (jC d 68 [(.ref (jsz μ))] ((jnew μ 3 0 8))).bind fun p1 => jR (d + 1) 11 12 [.ref a, .retAddr 0] (p1.1.toList ++ [(.ref (jsz μ)), .ref a]) p1.2 :=
  (l_aload_n (show gPG 11 0 = some (.aload_n 0) by decide +kernel) rfl jr_ref).trans <|
  (l_obj (u := 3) (show gPG 11 1 = some (jinvI 3 5) by decide +kernel) (by decide) (q2 := 99) (q3 := 0) (z := 18) (by decide +kernel) (by decide +kernel) cs0 (by decide +kernel)).trans <|
  (l_aload_n (show gPG 11 4 = some (.aload_n 0) by decide +kernel) rfl jr_ref).trans <|
  (l_new (show gPG 11 5 = some (.new 11) by decide +kernel) (kd := 3) (wd := 8) (q3 := 0) (q4 := 0) (by decide +kernel)).trans <|
  (l_dup (show gPG 11 8 = some (.dup) by decide +kernel) (jr_cat1 jr_ref)).trans <|
  l_callS (u := 3) (as := [(.ref (jsz μ))]) (show gPG 11 9 = some (jinvI 3 13) by decide +kernel) (by decide) (cc := 68) (na := 1) (q4 := 0) (z := 15) (rest := [(.ref (jsz μ)), .ref a]) (by decide +kernel) (by decide +kernel)  rfl (show (1 : Nat) ≤ 3 by decide) rfl (csv jr_ref (csv jr_ref cs0)) (by decide +kernel) (cav jr_ref ca0) (fun _ => ⟨_, _, rfl⟩)
theorem b11_12 (d : Nat) (μ : jM) (a : Nat) (u1 : Value) (s0 : Value) (s1 : Nat) (hs0 : jisref s0 = true) : jR (d + 1) 11 12 [.ref a, u1] [(.ref s1), s0] μ = (jpR μ 12 0 s0 ((.ref s1))).bind fun m1 => (jC d 68 [(.ref (jsz m1))] ((jnew m1 3 0 8))).bind fun p2 => jR (d + 1) 11 23 [.ref a, u1] (p2.1.toList ++ [(.ref (jsz m1)), .ref a]) p2.2 :=
  (l_pR (show gPG 11 12 = some (.putfield 14) by decide +kernel) (kd := 12) (sl := 0) (tc := 1) (fin := 1) (z := 0) (by decide +kernel) (by decide +kernel) (by decide +kernel) jr_ref).trans <| bd_cg fun m1 hm1 =>
  (l_aload_n (show gPG 11 15 = some (.aload_n 0) by decide +kernel) rfl jr_ref).trans <|
  (l_new (show gPG 11 16 = some (.new 11) by decide +kernel) (kd := 3) (wd := 8) (q3 := 0) (q4 := 0) (by decide +kernel)).trans <|
  (l_dup (show gPG 11 19 = some (.dup) by decide +kernel) (jr_cat1 jr_ref)).trans <|
  l_callS (u := 3) (as := [(.ref (jsz m1))]) (show gPG 11 20 = some (jinvI 3 13) by decide +kernel) (by decide) (cc := 68) (na := 1) (q4 := 0) (z := 15) (rest := [(.ref (jsz m1)), .ref a]) (by decide +kernel) (by decide +kernel)  rfl (show (1 : Nat) ≤ 3 by decide) rfl (csv jr_ref (csv jr_ref cs0)) (by decide +kernel) (cav jr_ref ca0) (fun _ => ⟨_, _, rfl⟩)
theorem b11_23 (d : Nat) (μ : jM) (a : Nat) (u1 : Value) (s0 : Value) (s1 : Nat) (hs0 : jisref s0 = true) : jR (d + 1) 11 23 [.ref a, u1] [(.ref s1), s0] μ = (jpR μ 12 1 s0 ((.ref s1))).bind fun m1 => (jC d 129 [(.ref (jsz m1))] ((jnew m1 10 0 7))).bind fun p2 => jR (d + 1) 11 34 [.ref a, u1] (p2.1.toList ++ [(.ref (jsz m1)), .ref a]) p2.2 :=
  (l_pR (show gPG 11 23 = some (.putfield 18) by decide +kernel) (kd := 12) (sl := 1) (tc := 1) (fin := 1) (z := 0) (by decide +kernel) (by decide +kernel) (by decide +kernel) jr_ref).trans <| bd_cg fun m1 hm1 =>
  (l_aload_n (show gPG 11 26 = some (.aload_n 0) by decide +kernel) rfl jr_ref).trans <|
  (l_new (show gPG 11 27 = some (.new 21) by decide +kernel) (kd := 10) (wd := 7) (q3 := 0) (q4 := 0) (by decide +kernel)).trans <|
  (l_dup (show gPG 11 30 = some (.dup) by decide +kernel) (jr_cat1 jr_ref)).trans <|
  l_callS (u := 3) (as := [(.ref (jsz m1))]) (show gPG 11 31 = some (jinvI 3 23) by decide +kernel) (by decide) (cc := 129) (na := 1) (q4 := 0) (z := 15) (rest := [(.ref (jsz m1)), .ref a]) (by decide +kernel) (by decide +kernel)  rfl (show (1 : Nat) ≤ 3 by decide) rfl (csv jr_ref (csv jr_ref cs0)) (by decide +kernel) (cav jr_ref ca0) (fun _ => ⟨_, _, rfl⟩)
theorem b11_34 (d : Nat) (μ : jM) (a : Nat) (u1 : Value) (s0 : Value) (s1 : Nat) (hs0 : jisref s0 = true) : jR (d + 1) 11 34 [.ref a, u1] [(.ref s1), s0] μ = (jpR μ 12 3 s0 ((.ref s1))).bind fun m1 => (jgR ((jnew m1 11 0 10)) 12 3 (.ref a)).bind fun w2 => (jC d 146 [(.ref (jsz m1)), w2] ((jnew m1 11 0 10))).bind fun p3 => jR (d + 1) 11 49 [.ref a, u1] (p3.1.toList ++ [(.ref (jsz m1)), .ref a]) p3.2 :=
  (l_pR (show gPG 11 34 = some (.putfield 24) by decide +kernel) (kd := 12) (sl := 3) (tc := 1) (fin := 1) (z := 0) (by decide +kernel) (by decide +kernel) (by decide +kernel) jr_ref).trans <| bd_cg fun m1 hm1 =>
  (l_aload_n (show gPG 11 37 = some (.aload_n 0) by decide +kernel) rfl jr_ref).trans <|
  (l_new (show gPG 11 38 = some (.new 28) by decide +kernel) (kd := 11) (wd := 10) (q3 := 0) (q4 := 0) (by decide +kernel)).trans <|
  (l_dup (show gPG 11 41 = some (.dup) by decide +kernel) (jr_cat1 jr_ref)).trans <|
  (l_aload_n (show gPG 11 42 = some (.aload_n 0) by decide +kernel) rfl jr_ref).trans <|
  (l_gR (show gPG 11 43 = some (.getfield 24) by decide +kernel) (kd := 12) (sl := 3) (tc := 1) (fin := 1) (z := 0) (by decide +kernel) (by decide +kernel) (by decide +kernel)).trans <| bd_cg fun w2 hw2 =>
  l_callS (u := 3) (as := [(.ref (jsz m1)), w2]) (show gPG 11 46 = some (jinvI 3 30) by decide +kernel) (by decide) (cc := 146) (na := 2) (q4 := 0) (z := 15) (rest := [(.ref (jsz m1)), .ref a]) (by decide +kernel) (by decide +kernel)  rfl (show (2 : Nat) ≤ 4 by decide) rfl (csv jr_ref (csv jr_ref cs0)) (by decide +kernel) (cav (jr_gR hw2) (cav jr_ref ca0)) (fun _ => ⟨_, _, rfl⟩)
theorem b11_49 (d : Nat) (μ : jM) (a : Nat) (u1 : Value) (s0 : Value) (s1 : Nat) (hs0 : jisref s0 = true) : jR (d + 1) 11 49 [.ref a, u1] [(.ref s1), s0] μ = (jpR μ 12 4 s0 ((.ref s1))).bind fun m1 => (jC d 58 [(.ref (jsz m1))] ((jnew m1 2 0 6))).bind fun p2 => jR (d + 1) 11 60 [.ref a, u1] (p2.1.toList ++ [(.ref (jsz m1)), .ref a]) p2.2 :=
  (l_pR (show gPG 11 49 = some (.putfield 33) by decide +kernel) (kd := 12) (sl := 4) (tc := 1) (fin := 1) (z := 0) (by decide +kernel) (by decide +kernel) (by decide +kernel) jr_ref).trans <| bd_cg fun m1 hm1 =>
  (l_aload_n (show gPG 11 52 = some (.aload_n 0) by decide +kernel) rfl jr_ref).trans <|
  (l_new (show gPG 11 53 = some (.new 37) by decide +kernel) (kd := 2) (wd := 6) (q3 := 0) (q4 := 0) (by decide +kernel)).trans <|
  (l_dup (show gPG 11 56 = some (.dup) by decide +kernel) (jr_cat1 jr_ref)).trans <|
  l_callS (u := 3) (as := [(.ref (jsz m1))]) (show gPG 11 57 = some (jinvI 3 39) by decide +kernel) (by decide) (cc := 58) (na := 1) (q4 := 0) (z := 15) (rest := [(.ref (jsz m1)), .ref a]) (by decide +kernel) (by decide +kernel)  rfl (show (1 : Nat) ≤ 3 by decide) rfl (csv jr_ref (csv jr_ref cs0)) (by decide +kernel) (cav jr_ref ca0) (fun _ => ⟨_, _, rfl⟩)
theorem b11_60 (d : Nat) (μ : jM) (a : Nat) (u1 : Value) (s0 : Value) (s1 : Nat) (hs0 : jisref s0 = true) : jR (d + 1) 11 60 [.ref a, u1] [(.ref s1), s0] μ = (jpR μ 12 5 s0 ((.ref s1))).bind fun m1 => (jC d 74 [(.ref (jsz m1))] ((jnew m1 4 0 5))).bind fun p2 => jR (d + 1) 11 71 [.ref a, u1] (p2.1.toList ++ [(.ref (jsz m1)), .ref a]) p2.2 :=
  (l_pR (show gPG 11 60 = some (.putfield 40) by decide +kernel) (kd := 12) (sl := 5) (tc := 1) (fin := 1) (z := 0) (by decide +kernel) (by decide +kernel) (by decide +kernel) jr_ref).trans <| bd_cg fun m1 hm1 =>
  (l_aload_n (show gPG 11 63 = some (.aload_n 0) by decide +kernel) rfl jr_ref).trans <|
  (l_new (show gPG 11 64 = some (.new 44) by decide +kernel) (kd := 4) (wd := 5) (q3 := 0) (q4 := 0) (by decide +kernel)).trans <|
  (l_dup (show gPG 11 67 = some (.dup) by decide +kernel) (jr_cat1 jr_ref)).trans <|
  l_callS (u := 3) (as := [(.ref (jsz m1))]) (show gPG 11 68 = some (jinvI 3 46) by decide +kernel) (by decide) (cc := 74) (na := 1) (q4 := 0) (z := 15) (rest := [(.ref (jsz m1)), .ref a]) (by decide +kernel) (by decide +kernel)  rfl (show (1 : Nat) ≤ 3 by decide) rfl (csv jr_ref (csv jr_ref cs0)) (by decide +kernel) (cav jr_ref ca0) (fun _ => ⟨_, _, rfl⟩)
theorem b11_71 (d : Nat) (μ : jM) (a : Nat) (u1 : Value) (s0 : Value) (s1 : Nat) (hs0 : jisref s0 = true) : jR (d + 1) 11 71 [.ref a, u1] [(.ref s1), s0] μ = (jpR μ 12 6 s0 ((.ref s1))).bind fun m1 => (jC d 111 [(.ref (jsz m1))] ((jnew m1 7 0 11))).bind fun p2 => jR (d + 1) 11 82 [.ref a, u1] (p2.1.toList ++ [(.ref (jsz m1)), .ref a]) p2.2 :=
  (l_pR (show gPG 11 71 = some (.putfield 47) by decide +kernel) (kd := 12) (sl := 6) (tc := 1) (fin := 1) (z := 0) (by decide +kernel) (by decide +kernel) (by decide +kernel) jr_ref).trans <| bd_cg fun m1 hm1 =>
  (l_aload_n (show gPG 11 74 = some (.aload_n 0) by decide +kernel) rfl jr_ref).trans <|
  (l_new (show gPG 11 75 = some (.new 51) by decide +kernel) (kd := 7) (wd := 11) (q3 := 0) (q4 := 0) (by decide +kernel)).trans <|
  (l_dup (show gPG 11 78 = some (.dup) by decide +kernel) (jr_cat1 jr_ref)).trans <|
  l_callS (u := 3) (as := [(.ref (jsz m1))]) (show gPG 11 79 = some (jinvI 3 53) by decide +kernel) (by decide) (cc := 111) (na := 1) (q4 := 0) (z := 15) (rest := [(.ref (jsz m1)), .ref a]) (by decide +kernel) (by decide +kernel)  rfl (show (1 : Nat) ≤ 3 by decide) rfl (csv jr_ref (csv jr_ref cs0)) (by decide +kernel) (cav jr_ref ca0) (fun _ => ⟨_, _, rfl⟩)
theorem b11_82 (d : Nat) (μ : jM) (a : Nat) (u1 : Value) (s0 : Value) (s1 : Nat) (hs0 : jisref s0 = true) : jR (d + 1) 11 82 [.ref a, u1] [(.ref s1), s0] μ = (jpR μ 12 8 s0 ((.ref s1))).bind fun m1 => (jC d 111 [(.ref (jsz m1))] ((jnew m1 7 0 11))).bind fun p2 => jR (d + 1) 11 93 [.ref a, u1] (p2.1.toList ++ [(.ref (jsz m1)), .ref a]) p2.2 :=
  (l_pR (show gPG 11 82 = some (.putfield 54) by decide +kernel) (kd := 12) (sl := 8) (tc := 1) (fin := 1) (z := 0) (by decide +kernel) (by decide +kernel) (by decide +kernel) jr_ref).trans <| bd_cg fun m1 hm1 =>
  (l_aload_n (show gPG 11 85 = some (.aload_n 0) by decide +kernel) rfl jr_ref).trans <|
  (l_new (show gPG 11 86 = some (.new 51) by decide +kernel) (kd := 7) (wd := 11) (q3 := 0) (q4 := 0) (by decide +kernel)).trans <|
  (l_dup (show gPG 11 89 = some (.dup) by decide +kernel) (jr_cat1 jr_ref)).trans <|
  l_callS (u := 3) (as := [(.ref (jsz m1))]) (show gPG 11 90 = some (jinvI 3 53) by decide +kernel) (by decide) (cc := 111) (na := 1) (q4 := 0) (z := 15) (rest := [(.ref (jsz m1)), .ref a]) (by decide +kernel) (by decide +kernel)  rfl (show (1 : Nat) ≤ 3 by decide) rfl (csv jr_ref (csv jr_ref cs0)) (by decide +kernel) (cav jr_ref ca0) (fun _ => ⟨_, _, rfl⟩)
theorem b11_93 (d : Nat) (μ : jM) (a : Nat) (u1 : Value) (s0 : Value) (s1 : Nat) (hs0 : jisref s0 = true) : jR (d + 1) 11 93 [.ref a, u1] [(.ref s1), s0] μ = (jpR μ 12 9 s0 ((.ref s1))).bind fun m1 => (jC d 87 [(.ref (jsz m1))] ((jnew m1 6 0 6))).bind fun p2 => jR (d + 1) 11 104 [.ref a, u1] (p2.1.toList ++ [(.ref (jsz m1)), .ref a]) p2.2 :=
  (l_pR (show gPG 11 93 = some (.putfield 58) by decide +kernel) (kd := 12) (sl := 9) (tc := 1) (fin := 1) (z := 0) (by decide +kernel) (by decide +kernel) (by decide +kernel) jr_ref).trans <| bd_cg fun m1 hm1 =>
  (l_aload_n (show gPG 11 96 = some (.aload_n 0) by decide +kernel) rfl jr_ref).trans <|
  (l_new (show gPG 11 97 = some (.new 61) by decide +kernel) (kd := 6) (wd := 6) (q3 := 0) (q4 := 0) (by decide +kernel)).trans <|
  (l_dup (show gPG 11 100 = some (.dup) by decide +kernel) (jr_cat1 jr_ref)).trans <|
  l_callS (u := 3) (as := [(.ref (jsz m1))]) (show gPG 11 101 = some (jinvI 3 63) by decide +kernel) (by decide) (cc := 87) (na := 1) (q4 := 0) (z := 15) (rest := [(.ref (jsz m1)), .ref a]) (by decide +kernel) (by decide +kernel)  rfl (show (1 : Nat) ≤ 3 by decide) rfl (csv jr_ref (csv jr_ref cs0)) (by decide +kernel) (cav jr_ref ca0) (fun _ => ⟨_, _, rfl⟩)
theorem b11_104 (d : Nat) (μ : jM) (a : Nat) (u1 : Value) (s0 : Value) (s1 : Nat) (hs0 : jisref s0 = true) : jR (d + 1) 11 104 [.ref a, u1] [(.ref s1), s0] μ = (jpR μ 12 10 s0 ((.ref s1))).bind fun m1 => (jC d 87 [(.ref (jsz m1))] ((jnew m1 6 0 6))).bind fun p2 => jR (d + 1) 11 115 [.ref a, u1] (p2.1.toList ++ [(.ref (jsz m1)), .ref a]) p2.2 :=
  (l_pR (show gPG 11 104 = some (.putfield 64) by decide +kernel) (kd := 12) (sl := 10) (tc := 1) (fin := 1) (z := 0) (by decide +kernel) (by decide +kernel) (by decide +kernel) jr_ref).trans <| bd_cg fun m1 hm1 =>
  (l_aload_n (show gPG 11 107 = some (.aload_n 0) by decide +kernel) rfl jr_ref).trans <|
  (l_new (show gPG 11 108 = some (.new 61) by decide +kernel) (kd := 6) (wd := 6) (q3 := 0) (q4 := 0) (by decide +kernel)).trans <|
  (l_dup (show gPG 11 111 = some (.dup) by decide +kernel) (jr_cat1 jr_ref)).trans <|
  l_callS (u := 3) (as := [(.ref (jsz m1))]) (show gPG 11 112 = some (jinvI 3 63) by decide +kernel) (by decide) (cc := 87) (na := 1) (q4 := 0) (z := 15) (rest := [(.ref (jsz m1)), .ref a]) (by decide +kernel) (by decide +kernel)  rfl (show (1 : Nat) ≤ 3 by decide) rfl (csv jr_ref (csv jr_ref cs0)) (by decide +kernel) (cav jr_ref ca0) (fun _ => ⟨_, _, rfl⟩)
theorem b11_115 (d : Nat) (μ : jM) (a : Nat) (u1 : Value) (s0 : Value) (s1 : Nat) (hs0 : jisref s0 = true) : jR (d + 1) 11 115 [.ref a, u1] [(.ref s1), s0] μ = (jpR μ 12 11 s0 ((.ref s1))).bind fun m1 => (jC d 121 [(.ref (jsz m1))] ((jnew m1 8 0 2))).bind fun p2 => jR (d + 1) 11 126 [.ref a, u1] (p2.1.toList ++ [(.ref (jsz m1)), .ref a]) p2.2 :=
  (l_pR (show gPG 11 115 = some (.putfield 68) by decide +kernel) (kd := 12) (sl := 11) (tc := 1) (fin := 1) (z := 0) (by decide +kernel) (by decide +kernel) (by decide +kernel) jr_ref).trans <| bd_cg fun m1 hm1 =>
  (l_aload_n (show gPG 11 118 = some (.aload_n 0) by decide +kernel) rfl jr_ref).trans <|
  (l_new (show gPG 11 119 = some (.new 71) by decide +kernel) (kd := 8) (wd := 2) (q3 := 0) (q4 := 0) (by decide +kernel)).trans <|
  (l_dup (show gPG 11 122 = some (.dup) by decide +kernel) (jr_cat1 jr_ref)).trans <|
  l_callS (u := 3) (as := [(.ref (jsz m1))]) (show gPG 11 123 = some (jinvI 3 73) by decide +kernel) (by decide) (cc := 121) (na := 1) (q4 := 0) (z := 15) (rest := [(.ref (jsz m1)), .ref a]) (by decide +kernel) (by decide +kernel)  rfl (show (1 : Nat) ≤ 3 by decide) rfl (csv jr_ref (csv jr_ref cs0)) (by decide +kernel) (cav jr_ref ca0) (fun _ => ⟨_, _, rfl⟩)
theorem b11_126 (d : Nat) (μ : jM) (a : Nat) (u1 : Value) (s0 : Value) (s1 : Nat) (hs0 : jisref s0 = true) : jR d 11 126 [.ref a, u1] [(.ref s1), s0] μ = (jpR μ 12 12 s0 ((.ref s1))).bind fun m1 => (jpR ((jnew m1 32 4 4)) 12 14 (.ref a) ((.ref (jsz m1)))).bind fun m2 => jR d 11 139 [.ref a, .int 0] [] m2 :=
  (l_pR (show gPG 11 126 = some (.putfield 74) by decide +kernel) (kd := 12) (sl := 12) (tc := 1) (fin := 1) (z := 0) (by decide +kernel) (by decide +kernel) (by decide +kernel) jr_ref).trans <| bd_cg fun m1 hm1 =>
  (l_aload_n (show gPG 11 129 = some (.aload_n 0) by decide +kernel) rfl jr_ref).trans <|
  (l_iconst (show gPG 11 130 = some (.iconst 4) by decide +kernel) (c := 4) (by decide +kernel)).trans <|
  (l_anewaK (show gPG 11 131 = some (.anewarray 78) by decide +kernel) (q1 := 9) (q2 := 3) (q3 := 0) (kd := 32) (N := 4) (by decide +kernel) (by decide +kernel)).trans <|
  (l_pR (show gPG 11 134 = some (.putfield 80) by decide +kernel) (kd := 12) (sl := 14) (tc := 1) (fin := 1) (z := 0) (by decide +kernel) (by decide +kernel) (by decide +kernel) jr_ref).trans <| bd_cg fun m2 hm2 =>
  (l_iconst (show gPG 11 137 = some (.iconst 0) by decide +kernel) (c := 0) (by decide +kernel)).trans <|
  l_istore_n (show gPG 11 138 = some (.istore_n 1) by decide +kernel) (ls := [.ref a, u1]) (show (1 : Nat) < 2 by decide) (show _ = ([.ref a, .int 0] : List Value) from rfl)
theorem b11_139 (d : Nat) (μ : jM) (a : Nat) (i1 : Int32) : jR (d + 1) 11 139 [.ref a, .int i1] [] μ = (if i1 < 4 then (jgR μ 12 14 (.ref a)).bind fun w1 => (jC d 124 [(.ref (jsz μ))] ((jnew μ 9 0 3))).bind fun p2 => jR (d + 1) 11 156 [.ref a, .int i1] (p2.1.toList ++ [(.ref (jsz μ)), .int i1, w1]) p2.2 else some (none, μ)) :=
  (l_iload_n (show gPG 11 139 = some (.iload_n 1) by decide +kernel) rfl).trans <|
  (l_iconst (show gPG 11 140 = some (.iconst 4) by decide +kernel) (c := 4) (by decide +kernel)).trans <|
  (l_cmp (show gPG 11 141 = some (.if_icmp .ge 22) by decide +kernel) (t := 163) (by decide +kernel)).trans <| jm_ge.trans <| ite_cg (
  (l_aload_n (show gPG 11 144 = some (.aload_n 0) by decide +kernel) rfl jr_ref).trans <|
  (l_gR (show gPG 11 145 = some (.getfield 80) by decide +kernel) (kd := 12) (sl := 14) (tc := 1) (fin := 1) (z := 0) (by decide +kernel) (by decide +kernel) (by decide +kernel)).trans <| bd_cg fun w1 hw1 =>
  (l_iload_n (show gPG 11 148 = some (.iload_n 1) by decide +kernel) rfl).trans <|
  (l_new (show gPG 11 149 = some (.new 78) by decide +kernel) (kd := 9) (wd := 3) (q3 := 0) (q4 := 32) (by decide +kernel)).trans <|
  (l_dup (show gPG 11 152 = some (.dup) by decide +kernel) (jr_cat1 jr_ref)).trans <|
  l_callS (u := 3) (as := [(.ref (jsz μ))]) (show gPG 11 153 = some (jinvI 3 84) by decide +kernel) (by decide) (cc := 124) (na := 1) (q4 := 0) (z := 15) (rest := [(.ref (jsz μ)), .int i1, w1]) (by decide +kernel) (by decide +kernel)  rfl (show (1 : Nat) ≤ 4 by decide) rfl (csv jr_ref (csi (csv (jr_gR hw1) cs0))) (by decide +kernel) (cav jr_ref ca0) (fun _ => ⟨_, _, rfl⟩)) (
  l_ret (show gPG 11 163 = some (.return_) by decide +kernel) (by decide +kernel))
theorem b11_156 (d : Nat) (μ : jM) (a : Nat) (i1 : Int32) (s0 : Value) (s1 : Int32) (s2 : Nat) (hs0 : jisref s0 = true) : jR d 11 156 [.ref a, .int i1] [(.ref s2), .int s1, s0] μ = (jsR μ s0 s1 ((.ref s2))).bind fun m1 => jR d 11 139 [.ref a, .int (i1 + 1)] [] m1 :=
  (l_aast (show gPG 11 156 = some (.aastore) by decide +kernel) ).trans <| bd_cg fun m1 hm1 =>
  (l_iinc (show gPG 11 157 = some (.iinc 1 1) by decide +kernel) (c := 1) (by decide +kernel) rfl (show _ = ([.ref a, .int (i1 + 1)] : List Value) from rfl)).trans <|
  l_goto (show gPG 11 160 = some (.goto (-21)) by decide +kernel) (t := 139) (by decide +kernel)
-- Top.feed
theorem b12_0 (d : Nat) (μ : jM) (a : Nat) (i1 : Int32) (i2 : Int32) (i3 : Int32) (i4 : Int32) (i5 : Int32) (i6 : Int32) : jR d 12 0 [.ref a, .int i1, .int i2, .int i3, .int i4, .int i5, .int i6, .retAddr 0, .retAddr 0, .retAddr 0, .retAddr 0, .retAddr 0] [] μ = (if i1 < 1 then jR d 12 10 [.ref a, .int i1, .int i2, .int i3, .int i4, .int i5, .int i6, .retAddr 0, .retAddr 0, .retAddr 0, .retAddr 0, .retAddr 0] [] μ else (if 5 < i1 then jR d 12 10 [.ref a, .int i1, .int i2, .int i3, .int i4, .int i5, .int i6, .retAddr 0, .retAddr 0, .retAddr 0, .retAddr 0, .retAddr 0] [] μ else (jsI ((jnew μ 20 5 5)) ((.ref (jsz μ))) 0 i2).bind fun m1 => (jsI m1 ((.ref (jsz μ))) 1 i3).bind fun m2 => (jsI m2 ((.ref (jsz μ))) 2 i4).bind fun m3 => (jsI m3 ((.ref (jsz μ))) 3 i5).bind fun m4 => (jsI m4 ((.ref (jsz μ))) 4 i6).bind fun m5 => (jal m5 ((.ref (jsz μ)))).bind fun x6 => jR d 12 53 [.ref a, .int i1, .int i2, .int i3, .int i4, .int i5, .int i6, (.ref (jsz μ)), (.ref (jsz μ)), .int x6, .int 0, .retAddr 0] [] m5)) :=
  (l_iload_n (show gPG 12 0 = some (.iload_n 1) by decide +kernel) rfl).trans <|
  (l_iconst (show gPG 12 1 = some (.iconst 1) by decide +kernel) (c := 1) (by decide +kernel)).trans <|
  (l_cmp (show gPG 12 2 = some (.if_icmp .lt 8) by decide +kernel) (t := 10) (by decide +kernel)).trans <| jm_lt.trans <| ite_cg (
  rfl) (
  (l_iload_n (show gPG 12 5 = some (.iload_n 1) by decide +kernel) rfl).trans <|
  (l_iconst (show gPG 12 6 = some (.iconst 5) by decide +kernel) (c := 5) (by decide +kernel)).trans <|
  (l_cmp (show gPG 12 7 = some (.if_icmp .le 6) by decide +kernel) (t := 13) (by decide +kernel)).trans <| jm_le.trans <| ite_cg (
  rfl) (
  (l_iconst (show gPG 12 13 = some (.iconst 5) by decide +kernel) (c := 5) (by decide +kernel)).trans <|
  (l_newaK (show gPG 12 14 = some (.newarray .int) by decide +kernel) (kd := 20) (N := 5) rfl (by decide +kernel)).trans <|
  (l_dup (show gPG 12 16 = some (.dup) by decide +kernel) (jr_cat1 jr_ref)).trans <|
  (l_iconst (show gPG 12 17 = some (.iconst 0) by decide +kernel) (c := 0) (by decide +kernel)).trans <|
  (l_iload_n (show gPG 12 18 = some (.iload_n 2) by decide +kernel) rfl).trans <|
  (l_iast (show gPG 12 19 = some (.iastore) by decide +kernel) ).trans <| bd_cg fun m1 hm1 =>
  (l_dup (show gPG 12 20 = some (.dup) by decide +kernel) (jr_cat1 jr_ref)).trans <|
  (l_iconst (show gPG 12 21 = some (.iconst 1) by decide +kernel) (c := 1) (by decide +kernel)).trans <|
  (l_iload_n (show gPG 12 22 = some (.iload_n 3) by decide +kernel) rfl).trans <|
  (l_iast (show gPG 12 23 = some (.iastore) by decide +kernel) ).trans <| bd_cg fun m2 hm2 =>
  (l_dup (show gPG 12 24 = some (.dup) by decide +kernel) (jr_cat1 jr_ref)).trans <|
  (l_iconst (show gPG 12 25 = some (.iconst 2) by decide +kernel) (c := 2) (by decide +kernel)).trans <|
  (l_iload (show gPG 12 26 = some (.iload 4) by decide +kernel) rfl).trans <|
  (l_iast (show gPG 12 28 = some (.iastore) by decide +kernel) ).trans <| bd_cg fun m3 hm3 =>
  (l_dup (show gPG 12 29 = some (.dup) by decide +kernel) (jr_cat1 jr_ref)).trans <|
  (l_iconst (show gPG 12 30 = some (.iconst 3) by decide +kernel) (c := 3) (by decide +kernel)).trans <|
  (l_iload (show gPG 12 31 = some (.iload 5) by decide +kernel) rfl).trans <|
  (l_iast (show gPG 12 33 = some (.iastore) by decide +kernel) ).trans <| bd_cg fun m4 hm4 =>
  (l_dup (show gPG 12 34 = some (.dup) by decide +kernel) (jr_cat1 jr_ref)).trans <|
  (l_iconst (show gPG 12 35 = some (.iconst 4) by decide +kernel) (c := 4) (by decide +kernel)).trans <|
  (l_iload (show gPG 12 36 = some (.iload 6) by decide +kernel) rfl).trans <|
  (l_iast (show gPG 12 38 = some (.iastore) by decide +kernel) ).trans <| bd_cg fun m5 hm5 =>
  (l_astore (show gPG 12 39 = some (.astore 7) by decide +kernel) (ls := [.ref a, .int i1, .int i2, .int i3, .int i4, .int i5, .int i6, .retAddr 0, .retAddr 0, .retAddr 0, .retAddr 0, .retAddr 0]) jr_ref (show (7 : Nat) < 12 by decide) (show _ = ([.ref a, .int i1, .int i2, .int i3, .int i4, .int i5, .int i6, (.ref (jsz μ)), .retAddr 0, .retAddr 0, .retAddr 0, .retAddr 0] : List Value) from rfl)).trans <|
  (l_aload (show gPG 12 41 = some (.aload 7) by decide +kernel) rfl jr_ref).trans <|
  (l_astore (show gPG 12 43 = some (.astore 8) by decide +kernel) (ls := [.ref a, .int i1, .int i2, .int i3, .int i4, .int i5, .int i6, (.ref (jsz μ)), .retAddr 0, .retAddr 0, .retAddr 0, .retAddr 0]) jr_ref (show (8 : Nat) < 12 by decide) (show _ = ([.ref a, .int i1, .int i2, .int i3, .int i4, .int i5, .int i6, (.ref (jsz μ)), (.ref (jsz μ)), .retAddr 0, .retAddr 0, .retAddr 0] : List Value) from rfl)).trans <|
  (l_aload (show gPG 12 45 = some (.aload 8) by decide +kernel) rfl jr_ref).trans <|
  (l_alen (show gPG 12 47 = some (.arraylength) by decide +kernel) ).trans <| bd_cg fun x6 hx6 =>
  (l_istore (show gPG 12 48 = some (.istore 9) by decide +kernel) (ls := [.ref a, .int i1, .int i2, .int i3, .int i4, .int i5, .int i6, (.ref (jsz μ)), (.ref (jsz μ)), .retAddr 0, .retAddr 0, .retAddr 0]) (show (9 : Nat) < 12 by decide) (show _ = ([.ref a, .int i1, .int i2, .int i3, .int i4, .int i5, .int i6, (.ref (jsz μ)), (.ref (jsz μ)), .int x6, .retAddr 0, .retAddr 0] : List Value) from rfl)).trans <|
  (l_iconst (show gPG 12 50 = some (.iconst 0) by decide +kernel) (c := 0) (by decide +kernel)).trans <|
  l_istore (show gPG 12 51 = some (.istore 10) by decide +kernel) (ls := [.ref a, .int i1, .int i2, .int i3, .int i4, .int i5, .int i6, (.ref (jsz μ)), (.ref (jsz μ)), .int x6, .retAddr 0, .retAddr 0]) (show (10 : Nat) < 12 by decide) (show _ = ([.ref a, .int i1, .int i2, .int i3, .int i4, .int i5, .int i6, (.ref (jsz μ)), (.ref (jsz μ)), .int x6, .int 0, .retAddr 0] : List Value) from rfl)))
theorem b12_10 (d : Nat) (μ : jM) (u0 : Value) (u1 : Value) (u2 : Value) (u3 : Value) (u4 : Value) (u5 : Value) (u6 : Value) (u7 : Value) (u8 : Value) (u9 : Value) (u10 : Value) (u11 : Value) : jR d 12 10 [u0, u1, u2, u3, u4, u5, u6, u7, u8, u9, u10, u11] [] μ = some (some (.int (-2)), μ) :=
  (l_bipush (show gPG 12 10 = some (.bipush (-2)) by decide +kernel) (c := (-2)) (by decide +kernel)).trans <|
  l_iret1 (show gPG 12 12 = some (.ireturn) by decide +kernel) (by decide +kernel)
theorem b12_53 (d : Nat) (μ : jM) (a : Nat) (i1 : Int32) (u2 : Value) (u3 : Value) (u4 : Value) (u5 : Value) (u6 : Value) (r7 : Value) (r8 : Value) (i9 : Int32) (i10 : Int32) (u11 : Value) (h7 : jisref r7 = true) (h8 : jisref r8 = true) : jR (d + 1) 12 53 [.ref a, .int i1, u2, u3, u4, u5, u6, r7, r8, .int i9, .int i10, u11] [] μ = (if i10 < i9 then (jaI μ r8 i10).bind fun x3 => (jC d 13 [.int x3, .int 0, .int 255] μ).bind fun p4 => jR (d + 1) 12 76 [.ref a, .int i1, u2, u3, u4, u5, u6, r7, r8, .int i9, .int i10, .int x3] (p4.1.toList ++ []) p4.2 else (jgR μ 12 3 (.ref a)).bind fun w1 => (if jrecv μ 10 w1 = true then (jC d 130 [w1, .int i1] μ).bind fun p2 => jR (d + 1) 12 96 [.ref a, .int i1, u2, u3, u4, u5, u6, r7, r8, .int i9, .int i10, u11] (p2.1.toList ++ []) p2.2 else none)) :=
  (l_iload (show gPG 12 53 = some (.iload 10) by decide +kernel) rfl).trans <|
  (l_iload (show gPG 12 55 = some (.iload 9) by decide +kernel) rfl).trans <|
  (l_cmp (show gPG 12 57 = some (.if_icmp .ge 31) by decide +kernel) (t := 88) (by decide +kernel)).trans <| jm_ge.trans <| ite_cg (
  (l_aload (show gPG 12 60 = some (.aload 8) by decide +kernel) rfl h8).trans <|
  (l_iload (show gPG 12 62 = some (.iload 10) by decide +kernel) rfl).trans <|
  (l_iald (show gPG 12 64 = some (.iaload) by decide +kernel) ).trans <| bd_cg fun x3 hx3 =>
  (l_istore (show gPG 12 65 = some (.istore 11) by decide +kernel) (ls := [.ref a, .int i1, u2, u3, u4, u5, u6, r7, r8, .int i9, .int i10, u11]) (show (11 : Nat) < 12 by decide) (show _ = ([.ref a, .int i1, u2, u3, u4, u5, u6, r7, r8, .int i9, .int i10, .int x3] : List Value) from rfl)).trans <|
  (l_iload (show gPG 12 67 = some (.iload 11) by decide +kernel) rfl).trans <|
  (l_iconst (show gPG 12 69 = some (.iconst 0) by decide +kernel) (c := 0) (by decide +kernel)).trans <|
  (l_sipush (show gPG 12 70 = some (.sipush 255) by decide +kernel) (c := 255) (by decide +kernel)).trans <|
  l_callS (u := 2) (as := [.int x3, .int 0, .int 255]) (show gPG 12 73 = some (jinvI 2 85) by decide +kernel) (by decide) (cc := 13) (na := 3) (q4 := 0) (z := 12) (rest := []) (by decide +kernel) (by decide +kernel)  rfl (show (3 : Nat) ≤ 3 by decide) rfl cs0 (by decide +kernel) (cai (cai (cai ca0))) (fun e => absurd e (by decide))) (
  (l_aload_n (show gPG 12 88 = some (.aload_n 0) by decide +kernel) rfl jr_ref).trans <|
  (l_gR (show gPG 12 89 = some (.getfield 24) by decide +kernel) (kd := 12) (sl := 3) (tc := 1) (fin := 1) (z := 0) (by decide +kernel) (by decide +kernel) (by decide +kernel)).trans <| bd_cg fun w1 hw1 =>
  (l_iload_n (show gPG 12 92 = some (.iload_n 1) by decide +kernel) rfl).trans <|
  l_callV (u := 1) (v := w1) (as := [.int i1]) (show gPG 12 93 = some (jinvI 1 89) by decide +kernel) (by decide) (cc := 130) (na := 2) (kd := 10) (q4 := 0) (z := 11) (rest := []) (by decide +kernel) (by decide +kernel)  rfl (show (2 : Nat) ≤ 2 by decide) rfl cs0 (by decide +kernel) (cai (cav (jr_gR hw1) ca0)))
theorem b12_76 (d : Nat) (μ : jM) (a : Nat) (i1 : Int32) (u2 : Value) (u3 : Value) (u4 : Value) (u5 : Value) (u6 : Value) (r7 : Value) (r8 : Value) (i9 : Int32) (i10 : Int32) (u11 : Value) (s0 : Int32) (h7 : jisref r7 = true) (h8 : jisref r8 = true) : jR d 12 76 [.ref a, .int i1, u2, u3, u4, u5, u6, r7, r8, .int i9, .int i10, u11] [.int s0] μ = (if s0 = 0 then some (some (.int (-2)), μ) else jR d 12 53 [.ref a, .int i1, u2, u3, u4, u5, u6, r7, r8, .int i9, .int (i10 + 1), u11] [] μ) :=
  (l_cmp0 (show gPG 12 76 = some (.ifCond .ne 6) by decide +kernel) (t := 82) (by decide +kernel)).trans <| jm_ne.trans <| ite_cg (
  (l_bipush (show gPG 12 79 = some (.bipush (-2)) by decide +kernel) (c := (-2)) (by decide +kernel)).trans <|
  l_iret1 (show gPG 12 81 = some (.ireturn) by decide +kernel) (by decide +kernel)) (
  (l_iinc (show gPG 12 82 = some (.iinc 10 1) by decide +kernel) (c := 1) (by decide +kernel) rfl (show _ = ([.ref a, .int i1, u2, u3, u4, u5, u6, r7, r8, .int i9, .int (i10 + 1), u11] : List Value) from rfl)).trans <|
  l_goto (show gPG 12 85 = some (.goto (-32)) by decide +kernel) (t := 53) (by decide +kernel))
theorem b12_96 (d : Nat) (μ : jM) (a : Nat) (i1 : Int32) (u2 : Value) (u3 : Value) (u4 : Value) (u5 : Value) (u6 : Value) (r7 : Value) (u8 : Value) (u9 : Value) (u10 : Value) (u11 : Value) (s0 : Int32) (h7 : jisref r7 = true) : jR d 12 96 [.ref a, .int i1, u2, u3, u4, u5, u6, r7, u8, u9, u10, u11] [.int s0] μ = (if s0 = 0 then some (some (.int (-4)), μ) else jR d 12 105 [.ref a, .int i1, u2, u3, u4, u5, u6, r7, .int 0, u9, u10, u11] [] μ) :=
  (l_cmp0 (show gPG 12 96 = some (.ifCond .ne 6) by decide +kernel) (t := 102) (by decide +kernel)).trans <| jm_ne.trans <| ite_cg (
  (l_bipush (show gPG 12 99 = some (.bipush (-4)) by decide +kernel) (c := (-4)) (by decide +kernel)).trans <|
  l_iret1 (show gPG 12 101 = some (.ireturn) by decide +kernel) (by decide +kernel)) (
  (l_iconst (show gPG 12 102 = some (.iconst 0) by decide +kernel) (c := 0) (by decide +kernel)).trans <|
  l_istore (show gPG 12 103 = some (.istore 8) by decide +kernel) (ls := [.ref a, .int i1, u2, u3, u4, u5, u6, r7, u8, u9, u10, u11]) (show (8 : Nat) < 12 by decide) (show _ = ([.ref a, .int i1, u2, u3, u4, u5, u6, r7, .int 0, u9, u10, u11] : List Value) from rfl))
theorem b12_105 (d : Nat) (μ : jM) (a : Nat) (i1 : Int32) (u2 : Value) (u3 : Value) (u4 : Value) (u5 : Value) (u6 : Value) (r7 : Value) (i8 : Int32) (u9 : Value) (u10 : Value) (u11 : Value) (h7 : jisref r7 = true) : jR (d + 1) 12 105 [.ref a, .int i1, u2, u3, u4, u5, u6, r7, .int i8, u9, u10, u11] [] μ = (if i8 < i1 then (jgR μ 12 3 (.ref a)).bind fun w3 => (jaI μ r7 i8).bind fun x4 => (if jrecv μ 10 w3 = true then (jC d 131 [w3, .int x4] μ).bind fun p5 => jR (d + 1) 12 123 [.ref a, .int i1, u2, u3, u4, u5, u6, r7, .int i8, u9, u10, u11] (p5.1.toList ++ []) p5.2 else none) else (jgR μ 12 3 (.ref a)).bind fun w1 => (jgI μ 10 1 w1).bind fun x2 => some (some (.int x2), μ)) :=
  (l_iload (show gPG 12 105 = some (.iload 8) by decide +kernel) rfl).trans <|
  (l_iload_n (show gPG 12 107 = some (.iload_n 1) by decide +kernel) rfl).trans <|
  (l_cmp (show gPG 12 108 = some (.if_icmp .ge 21) by decide +kernel) (t := 129) (by decide +kernel)).trans <| jm_ge.trans <| ite_cg (
  (l_aload_n (show gPG 12 111 = some (.aload_n 0) by decide +kernel) rfl jr_ref).trans <|
  (l_gR (show gPG 12 112 = some (.getfield 24) by decide +kernel) (kd := 12) (sl := 3) (tc := 1) (fin := 1) (z := 0) (by decide +kernel) (by decide +kernel) (by decide +kernel)).trans <| bd_cg fun w3 hw3 =>
  (l_aload (show gPG 12 115 = some (.aload 7) by decide +kernel) rfl h7).trans <|
  (l_iload (show gPG 12 117 = some (.iload 8) by decide +kernel) rfl).trans <|
  (l_iald (show gPG 12 119 = some (.iaload) by decide +kernel) ).trans <| bd_cg fun x4 hx4 =>
  l_callV (u := 1) (v := w3) (as := [.int x4]) (show gPG 12 120 = some (jinvI 1 93) by decide +kernel) (by decide) (cc := 131) (na := 2) (kd := 10) (q4 := 0) (z := 11) (rest := []) (by decide +kernel) (by decide +kernel)  rfl (show (2 : Nat) ≤ 2 by decide) rfl cs0 (by decide +kernel) (cai (cav (jr_gR hw3) ca0))) (
  (l_aload_n (show gPG 12 129 = some (.aload_n 0) by decide +kernel) rfl jr_ref).trans <|
  (l_gR (show gPG 12 130 = some (.getfield 24) by decide +kernel) (kd := 12) (sl := 3) (tc := 1) (fin := 1) (z := 0) (by decide +kernel) (by decide +kernel) (by decide +kernel)).trans <| bd_cg fun w1 hw1 =>
  (l_gI (show gPG 12 133 = some (.getfield 97) by decide +kernel) (kd := 10) (sl := 1) (tc := 0) (fin := 0) (z := 1) (by decide +kernel) (by decide +kernel) (by decide +kernel)).trans <| bd_cg fun x2 hx2 =>
  l_iret1 (show gPG 12 136 = some (.ireturn) by decide +kernel) (by decide +kernel))
theorem b12_123 (d : Nat) (μ : jM) (a : Nat) (i1 : Int32) (u2 : Value) (u3 : Value) (u4 : Value) (u5 : Value) (u6 : Value) (r7 : Value) (i8 : Int32) (u9 : Value) (u10 : Value) (u11 : Value) (h7 : jisref r7 = true) : jR d 12 123 [.ref a, .int i1, u2, u3, u4, u5, u6, r7, .int i8, u9, u10, u11] [] μ = jR d 12 105 [.ref a, .int i1, u2, u3, u4, u5, u6, r7, .int (i8 + 1), u9, u10, u11] [] μ :=
  (l_iinc (show gPG 12 123 = some (.iinc 8 1) by decide +kernel) (c := 1) (by decide +kernel) rfl (show _ = ([.ref a, .int i1, u2, u3, u4, u5, u6, r7, .int (i8 + 1), u9, u10, u11] : List Value) from rfl)).trans <|
  l_goto (show gPG 12 126 = some (.goto (-21)) by decide +kernel) (t := 105) (by decide +kernel)
-- Top.isIn
theorem b13_0 (d : Nat) (μ : jM) (i0 : Int32) (i1 : Int32) (i2 : Int32) : jR d 13 0 [.int i0, .int i1, .int i2] [] μ = (if i0 < i1 then jR d 13 14 [.int i0, .int i1, .int i2] [] μ else (if i2 < i0 then jR d 13 14 [.int i0, .int i1, .int i2] [] μ else jR d 13 15 [.int i0, .int i1, .int i2] [.int 1] μ)) :=
  (l_iload_n (show gPG 13 0 = some (.iload_n 0) by decide +kernel) rfl).trans <|
  (l_iload_n (show gPG 13 1 = some (.iload_n 1) by decide +kernel) rfl).trans <|
  (l_cmp (show gPG 13 2 = some (.if_icmp .lt 12) by decide +kernel) (t := 14) (by decide +kernel)).trans <| jm_lt.trans <| ite_cg (
  rfl) (
  (l_iload_n (show gPG 13 5 = some (.iload_n 0) by decide +kernel) rfl).trans <|
  (l_iload_n (show gPG 13 6 = some (.iload_n 2) by decide +kernel) rfl).trans <|
  (l_cmp (show gPG 13 7 = some (.if_icmp .gt 7) by decide +kernel) (t := 14) (by decide +kernel)).trans <| jm_gt.trans <| ite_cg (
  rfl) (
  (l_iconst (show gPG 13 10 = some (.iconst 1) by decide +kernel) (c := 1) (by decide +kernel)).trans <|
  l_goto (show gPG 13 11 = some (.goto 4) by decide +kernel) (t := 15) (by decide +kernel)))
theorem b13_14 (d : Nat) (μ : jM) (u0 : Value) (u1 : Value) (u2 : Value) : jR d 13 14 [u0, u1, u2] [] μ = jR d 13 15 [u0, u1, u2] [.int 0] μ :=
  l_iconst (show gPG 13 14 = some (.iconst 0) by decide +kernel) (c := 0) (by decide +kernel)
theorem b13_15 (d : Nat) (μ : jM) (u0 : Value) (u1 : Value) (u2 : Value) (s0 : Int32) : jR d 13 15 [u0, u1, u2] [.int s0] μ = (if jrf 4 s0 = true then some (some (.int s0), μ) else none) :=
  l_iret (show gPG 13 15 = some (.ireturn) by decide +kernel) (rc := 4) (by decide +kernel)
-- Top.write
theorem b14_0 (d : Nat) (μ : jM) (a : Nat) (i1 : Int32) (i2 : Int32) (i3 : Int32) : jR (d + 1) 14 0 [.ref a, .int i1, .int i2, .int i3, .retAddr 0, .retAddr 0] [] μ = (if jrecv μ 12 (.ref a) = true then (jC d 15 [.ref a, .int i1, .int i2, .int i3] μ).bind fun p1 => jR (d + 1) 14 7 [.ref a, .int i1, .int i2, .int i3, .retAddr 0, .retAddr 0] (p1.1.toList ++ []) p1.2 else none) :=
  (l_aload_n (show gPG 14 0 = some (.aload_n 0) by decide +kernel) rfl jr_ref).trans <|
  (l_iload_n (show gPG 14 1 = some (.iload_n 1) by decide +kernel) rfl).trans <|
  (l_iload_n (show gPG 14 2 = some (.iload_n 2) by decide +kernel) rfl).trans <|
  (l_iload_n (show gPG 14 3 = some (.iload_n 3) by decide +kernel) rfl).trans <|
  l_callV (u := 1) (v := .ref a) (as := [.int i1, .int i2, .int i3]) (show gPG 14 4 = some (jinvI 1 101) by decide +kernel) (by decide) (cc := 15) (na := 4) (kd := 12) (q4 := 0) (z := 10) (rest := []) (by decide +kernel) (by decide +kernel)  rfl (show (4 : Nat) ≤ 4 by decide) rfl cs0 (by decide +kernel) (cai (cai (cai (cav jr_ref ca0))))
theorem b14_7 (d : Nat) (μ : jM) (a : Nat) (i1 : Int32) (i2 : Int32) (i3 : Int32) (u4 : Value) (u5 : Value) (s0 : Int32) : jR (d + 1) 14 7 [.ref a, .int i1, .int i2, .int i3, u4, u5] [.int s0] μ = (if s0 = 0 then some (some (.int (-2)), μ) else (jgR μ 12 0 (.ref a)).bind fun w1 => (if jrecv μ 3 w1 = true then (jC d 69 [w1, .int i1] μ).bind fun p2 => jR (d + 1) 14 21 [.ref a, .int i1, .int i2, .int i3, u4, u5] (p2.1.toList ++ []) p2.2 else none)) :=
  (l_cmp0 (show gPG 14 7 = some (.ifCond .ne 6) by decide +kernel) (t := 13) (by decide +kernel)).trans <| jm_ne.trans <| ite_cg (
  (l_bipush (show gPG 14 10 = some (.bipush (-2)) by decide +kernel) (c := (-2)) (by decide +kernel)).trans <|
  l_iret1 (show gPG 14 12 = some (.ireturn) by decide +kernel) (by decide +kernel)) (
  (l_aload_n (show gPG 14 13 = some (.aload_n 0) by decide +kernel) rfl jr_ref).trans <|
  (l_gR (show gPG 14 14 = some (.getfield 14) by decide +kernel) (kd := 12) (sl := 0) (tc := 1) (fin := 1) (z := 0) (by decide +kernel) (by decide +kernel) (by decide +kernel)).trans <| bd_cg fun w1 hw1 =>
  (l_iload_n (show gPG 14 17 = some (.iload_n 1) by decide +kernel) rfl).trans <|
  l_callV (u := 1) (v := w1) (as := [.int i1]) (show gPG 14 18 = some (jinvI 1 104) by decide +kernel) (by decide) (cc := 69) (na := 2) (kd := 3) (q4 := 0) (z := 11) (rest := []) (by decide +kernel) (by decide +kernel)  rfl (show (2 : Nat) ≤ 2 by decide) rfl cs0 (by decide +kernel) (cai (cav (jr_gR hw1) ca0)))
theorem b14_21 (d : Nat) (μ : jM) (a : Nat) (u1 : Value) (i2 : Int32) (i3 : Int32) (u4 : Value) (u5 : Value) (s0 : Value) (hs0 : jisref s0 = true) : jR (d + 1) 14 21 [.ref a, u1, .int i2, .int i3, u4, u5] [s0] μ = (jgR μ 12 4 (.ref a)).bind fun w1 => (if jrecv μ 11 w1 = true then (jC d 147 [w1, s0] μ).bind fun p2 => jR (d + 1) 14 32 [.ref a, u1, .int i2, .int i3, s0, u5] (p2.1.toList ++ []) p2.2 else none) :=
  (l_astore (show gPG 14 21 = some (.astore 4) by decide +kernel) (ls := [.ref a, u1, .int i2, .int i3, u4, u5]) hs0 (show (4 : Nat) < 6 by decide) (show _ = ([.ref a, u1, .int i2, .int i3, s0, u5] : List Value) from rfl)).trans <|
  (l_aload_n (show gPG 14 23 = some (.aload_n 0) by decide +kernel) rfl jr_ref).trans <|
  (l_gR (show gPG 14 24 = some (.getfield 33) by decide +kernel) (kd := 12) (sl := 4) (tc := 1) (fin := 1) (z := 0) (by decide +kernel) (by decide +kernel) (by decide +kernel)).trans <| bd_cg fun w1 hw1 =>
  (l_aload (show gPG 14 27 = some (.aload 4) by decide +kernel) rfl hs0).trans <|
  l_callV (u := 1) (v := w1) (as := [s0]) (show gPG 14 29 = some (jinvI 1 108) by decide +kernel) (by decide) (cc := 147) (na := 2) (kd := 11) (q4 := 0) (z := 11) (rest := []) (by decide +kernel) (by decide +kernel)  rfl (show (2 : Nat) ≤ 2 by decide) rfl cs0 (by decide +kernel) (cav hs0 (cav (jr_gR hw1) ca0))
theorem b14_32 (d : Nat) (μ : jM) (a : Nat) (u1 : Value) (i2 : Int32) (i3 : Int32) (r4 : Value) (u5 : Value) (s0 : Int32) (h4 : jisref r4 = true) : jR (d + 1) 14 32 [.ref a, u1, .int i2, .int i3, r4, u5] [.int s0] μ = (jgR μ 12 3 (.ref a)).bind fun w1 => (if jrecv μ 10 w1 = true then (jC d 144 [w1] μ).bind fun p2 => jR (d + 1) 14 41 [.ref a, u1, .int i2, .int i3, r4, .int s0] (p2.1.toList ++ []) p2.2 else none) :=
  (l_istore (show gPG 14 32 = some (.istore 5) by decide +kernel) (ls := [.ref a, u1, .int i2, .int i3, r4, u5]) (show (5 : Nat) < 6 by decide) (show _ = ([.ref a, u1, .int i2, .int i3, r4, .int s0] : List Value) from rfl)).trans <|
  (l_aload_n (show gPG 14 34 = some (.aload_n 0) by decide +kernel) rfl jr_ref).trans <|
  (l_gR (show gPG 14 35 = some (.getfield 24) by decide +kernel) (kd := 12) (sl := 3) (tc := 1) (fin := 1) (z := 0) (by decide +kernel) (by decide +kernel) (by decide +kernel)).trans <| bd_cg fun w1 hw1 =>
  l_callV (u := 1) (v := w1) (as := []) (show gPG 14 38 = some (jinvI 1 112) by decide +kernel) (by decide) (cc := 144) (na := 1) (kd := 10) (q4 := 0) (z := 11) (rest := []) (by decide +kernel) (by decide +kernel)  rfl (show (1 : Nat) ≤ 1 by decide) rfl cs0 (by decide +kernel) (cav (jr_gR hw1) ca0)
theorem b14_41 (d : Nat) (μ : jM) (a : Nat) (u1 : Value) (i2 : Int32) (i3 : Int32) (r4 : Value) (i5 : Int32) (h4 : jisref r4 = true) : jR (d + 1) 14 41 [.ref a, u1, .int i2, .int i3, r4, .int i5] [] μ = (if i5 = 0 then (jgR μ 12 3 (.ref a)).bind fun w2 => (if jrecv μ 10 w2 = true then (jC d 145 [w2] μ).bind fun p3 => jR (d + 1) 14 55 [.ref a, u1, .int i2, .int i3, r4, .int i5] (p3.1.toList ++ [.int (-100)]) p3.2 else none) else (if jrecv μ 12 (.ref a) = true then (jC d 19 [.ref a] μ).bind fun p1 => jR (d + 1) 14 61 [.ref a, u1, .int i2, .int i3, r4, .int i5] (p1.1.toList ++ []) p1.2 else none)) :=
  (l_iload (show gPG 14 41 = some (.iload 5) by decide +kernel) rfl).trans <|
  (l_cmp0 (show gPG 14 43 = some (.ifCond .ne 14) by decide +kernel) (t := 57) (by decide +kernel)).trans <| jm_ne.trans <| ite_cg (
  (l_bipush (show gPG 14 46 = some (.bipush (-100)) by decide +kernel) (c := (-100)) (by decide +kernel)).trans <|
  (l_aload_n (show gPG 14 48 = some (.aload_n 0) by decide +kernel) rfl jr_ref).trans <|
  (l_gR (show gPG 14 49 = some (.getfield 24) by decide +kernel) (kd := 12) (sl := 3) (tc := 1) (fin := 1) (z := 0) (by decide +kernel) (by decide +kernel) (by decide +kernel)).trans <| bd_cg fun w2 hw2 =>
  l_callV (u := 1) (v := w2) (as := []) (show gPG 14 52 = some (jinvI 1 115) by decide +kernel) (by decide) (cc := 145) (na := 1) (kd := 10) (q4 := 0) (z := 11) (rest := [.int (-100)]) (by decide +kernel) (by decide +kernel)  rfl (show (1 : Nat) ≤ 2 by decide) rfl (csi cs0) (by decide +kernel) (cav (jr_gR hw2) ca0)) (
  (l_aload_n (show gPG 14 57 = some (.aload_n 0) by decide +kernel) rfl jr_ref).trans <|
  l_callV (u := 1) (v := .ref a) (as := []) (show gPG 14 58 = some (jinvI 1 119) by decide +kernel) (by decide) (cc := 19) (na := 1) (kd := 12) (q4 := 0) (z := 10) (rest := []) (by decide +kernel) (by decide +kernel)  rfl (show (1 : Nat) ≤ 1 by decide) rfl cs0 (by decide +kernel) (cav jr_ref ca0))
theorem b14_55 (d : Nat) (μ : jM) (u0 : Value) (u1 : Value) (u2 : Value) (u3 : Value) (u4 : Value) (u5 : Value) (s0 : Int32) (s1 : Int32) : jR d 14 55 [u0, u1, u2, u3, u4, u5] [.int s1, .int s0] μ = some (some (.int (s0 - s1)), μ) :=
  (l_isub (show gPG 14 55 = some (.isub) by decide +kernel) ).trans <|
  l_iret1 (show gPG 14 56 = some (.ireturn) by decide +kernel) (by decide +kernel)
theorem b14_61 (d : Nat) (μ : jM) (a : Nat) (u1 : Value) (i2 : Int32) (i3 : Int32) (r4 : Value) (u5 : Value) (h4 : jisref r4 = true) : jR (d + 1) 14 61 [.ref a, u1, .int i2, .int i3, r4, u5] [] μ = (jgR μ 12 4 (.ref a)).bind fun w1 => (jgI μ 11 2 w1).bind fun x2 => (jgR μ 12 4 (.ref a)).bind fun w3 => (jgI μ 11 3 w3).bind fun x4 => (jgR μ 12 4 (.ref a)).bind fun w5 => (if jrecv μ 11 w5 = true then (jC d 159 [w5] μ).bind fun p6 => jR (d + 1) 14 86 [.ref a, u1, .int i2, .int i3, r4, u5] (p6.1.toList ++ [.int x4, .int x2, .int i3, .int i2, r4]) p6.2 else none) :=
  (l_aload (show gPG 14 61 = some (.aload 4) by decide +kernel) rfl h4).trans <|
  (l_iload_n (show gPG 14 63 = some (.iload_n 2) by decide +kernel) rfl).trans <|
  (l_iload_n (show gPG 14 64 = some (.iload_n 3) by decide +kernel) rfl).trans <|
  (l_aload_n (show gPG 14 65 = some (.aload_n 0) by decide +kernel) rfl jr_ref).trans <|
  (l_gR (show gPG 14 66 = some (.getfield 33) by decide +kernel) (kd := 12) (sl := 4) (tc := 1) (fin := 1) (z := 0) (by decide +kernel) (by decide +kernel) (by decide +kernel)).trans <| bd_cg fun w1 hw1 =>
  (l_gI (show gPG 14 69 = some (.getfield 122) by decide +kernel) (kd := 11) (sl := 2) (tc := 0) (fin := 0) (z := 1) (by decide +kernel) (by decide +kernel) (by decide +kernel)).trans <| bd_cg fun x2 hx2 =>
  (l_aload_n (show gPG 14 72 = some (.aload_n 0) by decide +kernel) rfl jr_ref).trans <|
  (l_gR (show gPG 14 73 = some (.getfield 33) by decide +kernel) (kd := 12) (sl := 4) (tc := 1) (fin := 1) (z := 0) (by decide +kernel) (by decide +kernel) (by decide +kernel)).trans <| bd_cg fun w3 hw3 =>
  (l_gI (show gPG 14 76 = some (.getfield 125) by decide +kernel) (kd := 11) (sl := 3) (tc := 0) (fin := 0) (z := 1) (by decide +kernel) (by decide +kernel) (by decide +kernel)).trans <| bd_cg fun x4 hx4 =>
  (l_aload_n (show gPG 14 79 = some (.aload_n 0) by decide +kernel) rfl jr_ref).trans <|
  (l_gR (show gPG 14 80 = some (.getfield 33) by decide +kernel) (kd := 12) (sl := 4) (tc := 1) (fin := 1) (z := 0) (by decide +kernel) (by decide +kernel) (by decide +kernel)).trans <| bd_cg fun w5 hw5 =>
  l_callV (u := 1) (v := w5) (as := []) (show gPG 14 83 = some (jinvI 1 128) by decide +kernel) (by decide) (cc := 159) (na := 1) (kd := 11) (q4 := 0) (z := 11) (rest := [.int x4, .int x2, .int i3, .int i2, r4]) (by decide +kernel) (by decide +kernel)  rfl (show (1 : Nat) ≤ 6 by decide) rfl (csi (csi (csi (csi (csv h4 cs0))))) (by decide +kernel) (cav (jr_gR hw5) ca0)
theorem b14_86 (d : Nat) (μ : jM) (a : Nat) (u1 : Value) (u2 : Value) (u3 : Value) (u4 : Value) (u5 : Value) (s0 : Value) (s1 : Int32) (s2 : Int32) (s3 : Int32) (s4 : Int32) (s5 : Value) (hs0 : jisref s0 = true) (hs5 : jisref s5 = true) : jR (d + 1) 14 86 [.ref a, u1, u2, u3, u4, u5] [s5, .int s4, .int s3, .int s2, .int s1, s0] μ = (if jrecv μ 6 s0 = true then (jC d 91 [s0, .int s1, .int s2, .int s3, .int s4, s5] μ).bind fun p1 => jR (d + 1) 14 89 [.ref a, u1, u2, u3, u4, u5] (p1.1.toList ++ []) p1.2 else none) :=
  l_callV (u := 1) (v := s0) (as := [.int s1, .int s2, .int s3, .int s4, s5]) (show gPG 14 86 = some (jinvI 1 132) by decide +kernel) (by decide) (cc := 91) (na := 6) (kd := 6) (q4 := 0) (z := 11) (rest := []) (by decide +kernel) (by decide +kernel)  rfl (show (6 : Nat) ≤ 6 by decide) rfl cs0 (by decide +kernel) (cav hs5 (cai (cai (cai (cai (cav hs0 ca0))))))
theorem b14_89 (d : Nat) (μ : jM) (a : Nat) (u1 : Value) (u2 : Value) (u3 : Value) (u4 : Value) (u5 : Value) : jR d 14 89 [.ref a, u1, u2, u3, u4, u5] [] μ = (jgR μ 12 4 (.ref a)).bind fun w1 => (jgI μ 11 2 w1).bind fun x2 => some (some (.int x2), μ) :=
  (l_aload_n (show gPG 14 89 = some (.aload_n 0) by decide +kernel) rfl jr_ref).trans <|
  (l_gR (show gPG 14 90 = some (.getfield 33) by decide +kernel) (kd := 12) (sl := 4) (tc := 1) (fin := 1) (z := 0) (by decide +kernel) (by decide +kernel) (by decide +kernel)).trans <| bd_cg fun w1 hw1 =>
  (l_gI (show gPG 14 93 = some (.getfield 122) by decide +kernel) (kd := 11) (sl := 2) (tc := 0) (fin := 0) (z := 1) (by decide +kernel) (by decide +kernel) (by decide +kernel)).trans <| bd_cg fun x2 hx2 =>
  l_iret1 (show gPG 14 96 = some (.ireturn) by decide +kernel) (by decide +kernel)
-- Top.isInputCell
theorem b15_0 (d : Nat) (μ : jM) (a : Nat) (i1 : Int32) (i2 : Int32) (i3 : Int32) : jR (d + 1) 15 0 [.ref a, .int i1, .int i2, .int i3] [] μ = (jC d 16 [.int i1] μ).bind fun p1 => jR (d + 1) 15 4 [.ref a, .int i1, .int i2, .int i3] (p1.1.toList ++ []) p1.2 :=
  (l_iload_n (show gPG 15 0 = some (.iload_n 1) by decide +kernel) rfl).trans <|
  l_callS (u := 2) (as := [.int i1]) (show gPG 15 1 = some (jinvI 2 136) by decide +kernel) (by decide) (cc := 16) (na := 1) (q4 := 0) (z := 12) (rest := []) (by decide +kernel) (by decide +kernel)  rfl (show (1 : Nat) ≤ 1 by decide) rfl cs0 (by decide +kernel) (cai ca0) (fun e => absurd e (by decide))
theorem b15_4 (d : Nat) (μ : jM) (a : Nat) (i1 : Int32) (i2 : Int32) (i3 : Int32) (s0 : Int32) : jR (d + 1) 15 4 [.ref a, .int i1, .int i2, .int i3] [.int s0] μ = (if s0 = 0 then jR (d + 1) 15 21 [.ref a, .int i1, .int i2, .int i3] [] μ else (if jrecv μ 12 (.ref a) = true then (jC d 17 [.ref a, .int i1, .int i2, .int i3] μ).bind fun p1 => jR (d + 1) 15 14 [.ref a, .int i1, .int i2, .int i3] (p1.1.toList ++ []) p1.2 else none)) :=
  (l_cmp0 (show gPG 15 4 = some (.ifCond .eq 17) by decide +kernel) (t := 21) (by decide +kernel)).trans <| jm_eq.trans <| ite_cg (
  rfl) (
  (l_aload_n (show gPG 15 7 = some (.aload_n 0) by decide +kernel) rfl jr_ref).trans <|
  (l_iload_n (show gPG 15 8 = some (.iload_n 1) by decide +kernel) rfl).trans <|
  (l_iload_n (show gPG 15 9 = some (.iload_n 2) by decide +kernel) rfl).trans <|
  (l_iload_n (show gPG 15 10 = some (.iload_n 3) by decide +kernel) rfl).trans <|
  l_callV (u := 1) (v := .ref a) (as := [.int i1, .int i2, .int i3]) (show gPG 15 11 = some (jinvI 1 182) by decide +kernel) (by decide) (cc := 17) (na := 4) (kd := 12) (q4 := 0) (z := 10) (rest := []) (by decide +kernel) (by decide +kernel)  rfl (show (4 : Nat) ≤ 4 by decide) rfl cs0 (by decide +kernel) (cai (cai (cai (cav jr_ref ca0)))))
theorem b15_14 (d : Nat) (μ : jM) (u0 : Value) (u1 : Value) (u2 : Value) (u3 : Value) (s0 : Int32) : jR d 15 14 [u0, u1, u2, u3] [.int s0] μ = (if s0 = 0 then jR d 15 21 [u0, u1, u2, u3] [] μ else jR d 15 22 [u0, u1, u2, u3] [.int 1] μ) :=
  (l_cmp0 (show gPG 15 14 = some (.ifCond .eq 7) by decide +kernel) (t := 21) (by decide +kernel)).trans <| jm_eq.trans <| ite_cg (
  rfl) (
  (l_iconst (show gPG 15 17 = some (.iconst 1) by decide +kernel) (c := 1) (by decide +kernel)).trans <|
  l_goto (show gPG 15 18 = some (.goto 4) by decide +kernel) (t := 22) (by decide +kernel))
theorem b15_21 (d : Nat) (μ : jM) (u0 : Value) (u1 : Value) (u2 : Value) (u3 : Value) : jR d 15 21 [u0, u1, u2, u3] [] μ = jR d 15 22 [u0, u1, u2, u3] [.int 0] μ :=
  l_iconst (show gPG 15 21 = some (.iconst 0) by decide +kernel) (c := 0) (by decide +kernel)
theorem b15_22 (d : Nat) (μ : jM) (u0 : Value) (u1 : Value) (u2 : Value) (u3 : Value) (s0 : Int32) : jR d 15 22 [u0, u1, u2, u3] [.int s0] μ = (if jrf 4 s0 = true then some (some (.int s0), μ) else none) :=
  l_iret (show gPG 15 22 = some (.ireturn) by decide +kernel) (rc := 4) (by decide +kernel)
-- Top.isInput
theorem b16_0 (d : Nat) (μ : jM) (i0 : Int32) : jR d 16 0 [.int i0] [] μ = (if i0 < 0 then jR d 16 13 [.int i0] [] μ else (if i0 < 3 then jR d 16 14 [.int i0] [.int 1] μ else jR d 16 13 [.int i0] [] μ)) :=
  (l_iload_n (show gPG 16 0 = some (.iload_n 0) by decide +kernel) rfl).trans <|
  (l_cmp0 (show gPG 16 1 = some (.ifCond .lt 12) by decide +kernel) (t := 13) (by decide +kernel)).trans <| jm_lt.trans <| ite_cg (
  rfl) (
  (l_iload_n (show gPG 16 4 = some (.iload_n 0) by decide +kernel) rfl).trans <|
  (l_iconst (show gPG 16 5 = some (.iconst 3) by decide +kernel) (c := 3) (by decide +kernel)).trans <|
  (l_cmp (show gPG 16 6 = some (.if_icmp .ge 7) by decide +kernel) (t := 13) (by decide +kernel)).trans <| jm_ge.trans <| ite_cg (
  (l_iconst (show gPG 16 9 = some (.iconst 1) by decide +kernel) (c := 1) (by decide +kernel)).trans <|
  l_goto (show gPG 16 10 = some (.goto 4) by decide +kernel) (t := 14) (by decide +kernel)) (
  rfl))
theorem b16_13 (d : Nat) (μ : jM) (u0 : Value) : jR d 16 13 [u0] [] μ = jR d 16 14 [u0] [.int 0] μ :=
  l_iconst (show gPG 16 13 = some (.iconst 0) by decide +kernel) (c := 0) (by decide +kernel)
theorem b16_14 (d : Nat) (μ : jM) (u0 : Value) (s0 : Int32) : jR d 16 14 [u0] [.int s0] μ = (if jrf 4 s0 = true then some (some (.int s0), μ) else none) :=
  l_iret (show gPG 16 14 = some (.ireturn) by decide +kernel) (rc := 4) (by decide +kernel)
-- Top.isCell
theorem b17_0 (d : Nat) (μ : jM) (a : Nat) (i1 : Int32) (i2 : Int32) (i3 : Int32) : jR (d + 1) 17 0 [.ref a, .int i1, .int i2, .int i3] [] μ = (jC d 18 [.int i1] μ).bind fun p1 => jR (d + 1) 17 4 [.ref a, .int i1, .int i2, .int i3] (p1.1.toList ++ []) p1.2 :=
  (l_iload_n (show gPG 17 0 = some (.iload_n 1) by decide +kernel) rfl).trans <|
  l_callS (u := 2) (as := [.int i1]) (show gPG 17 1 = some (jinvI 2 175) by decide +kernel) (by decide) (cc := 18) (na := 1) (q4 := 0) (z := 12) (rest := []) (by decide +kernel) (by decide +kernel)  rfl (show (1 : Nat) ≤ 1 by decide) rfl cs0 (by decide +kernel) (cai ca0) (fun e => absurd e (by decide))
theorem b17_4 (d : Nat) (μ : jM) (a : Nat) (i1 : Int32) (i2 : Int32) (i3 : Int32) (s0 : Int32) : jR (d + 1) 17 4 [.ref a, .int i1, .int i2, .int i3] [.int s0] μ = (if s0 = 0 then jR (d + 1) 17 28 [.ref a, .int i1, .int i2, .int i3] [] μ else (jgR μ 12 0 (.ref a)).bind fun w1 => (if jrecv μ 3 w1 = true then (jC d 69 [w1, .int i1] μ).bind fun p2 => jR (d + 1) 17 15 [.ref a, .int i1, .int i2, .int i3] (p2.1.toList ++ []) p2.2 else none)) :=
  (l_cmp0 (show gPG 17 4 = some (.ifCond .eq 24) by decide +kernel) (t := 28) (by decide +kernel)).trans <| jm_eq.trans <| ite_cg (
  rfl) (
  (l_aload_n (show gPG 17 7 = some (.aload_n 0) by decide +kernel) rfl jr_ref).trans <|
  (l_gR (show gPG 17 8 = some (.getfield 14) by decide +kernel) (kd := 12) (sl := 0) (tc := 1) (fin := 1) (z := 0) (by decide +kernel) (by decide +kernel) (by decide +kernel)).trans <| bd_cg fun w1 hw1 =>
  (l_iload_n (show gPG 17 11 = some (.iload_n 1) by decide +kernel) rfl).trans <|
  l_callV (u := 1) (v := w1) (as := [.int i1]) (show gPG 17 12 = some (jinvI 1 104) by decide +kernel) (by decide) (cc := 69) (na := 2) (kd := 3) (q4 := 0) (z := 11) (rest := []) (by decide +kernel) (by decide +kernel)  rfl (show (2 : Nat) ≤ 2 by decide) rfl cs0 (by decide +kernel) (cai (cav (jr_gR hw1) ca0)))
theorem b17_15 (d : Nat) (μ : jM) (u0 : Value) (u1 : Value) (i2 : Int32) (i3 : Int32) (s0 : Value) (hs0 : jisref s0 = true) : jR (d + 1) 17 15 [u0, u1, .int i2, .int i3] [s0] μ = (if jrecv μ 6 s0 = true then (jC d 88 [s0, .int i2, .int i3] μ).bind fun p1 => jR (d + 1) 17 20 [u0, u1, .int i2, .int i3] (p1.1.toList ++ []) p1.2 else none) :=
  (l_iload_n (show gPG 17 15 = some (.iload_n 2) by decide +kernel) rfl).trans <|
  (l_iload_n (show gPG 17 16 = some (.iload_n 3) by decide +kernel) rfl).trans <|
  l_callV (u := 1) (v := s0) (as := [.int i2, .int i3]) (show gPG 17 17 = some (jinvI 1 337) by decide +kernel) (by decide) (cc := 88) (na := 3) (kd := 6) (q4 := 0) (z := 11) (rest := []) (by decide +kernel) (by decide +kernel)  rfl (show (3 : Nat) ≤ 3 by decide) rfl cs0 (by decide +kernel) (cai (cai (cav hs0 ca0)))
theorem b17_20 (d : Nat) (μ : jM) (u0 : Value) (u1 : Value) (u2 : Value) (u3 : Value) (s0 : Int32) : jR d 17 20 [u0, u1, u2, u3] [.int s0] μ = (if s0 = (-1) then jR d 17 28 [u0, u1, u2, u3] [] μ else jR d 17 29 [u0, u1, u2, u3] [.int 1] μ) :=
  (l_iconst (show gPG 17 20 = some (.iconst (-1)) by decide +kernel) (c := (-1)) (by decide +kernel)).trans <|
  (l_cmp (show gPG 17 21 = some (.if_icmp .eq 7) by decide +kernel) (t := 28) (by decide +kernel)).trans <| jm_eq.trans <| ite_cg (
  rfl) (
  (l_iconst (show gPG 17 24 = some (.iconst 1) by decide +kernel) (c := 1) (by decide +kernel)).trans <|
  l_goto (show gPG 17 25 = some (.goto 4) by decide +kernel) (t := 29) (by decide +kernel))
theorem b17_28 (d : Nat) (μ : jM) (u0 : Value) (u1 : Value) (u2 : Value) (u3 : Value) : jR d 17 28 [u0, u1, u2, u3] [] μ = jR d 17 29 [u0, u1, u2, u3] [.int 0] μ :=
  l_iconst (show gPG 17 28 = some (.iconst 0) by decide +kernel) (c := 0) (by decide +kernel)
theorem b17_29 (d : Nat) (μ : jM) (u0 : Value) (u1 : Value) (u2 : Value) (u3 : Value) (s0 : Int32) : jR d 17 29 [u0, u1, u2, u3] [.int s0] μ = (if jrf 4 s0 = true then some (some (.int s0), μ) else none) :=
  l_iret (show gPG 17 29 = some (.ireturn) by decide +kernel) (rc := 4) (by decide +kernel)
-- Top.isGrid
theorem b18_0 (d : Nat) (μ : jM) (i0 : Int32) : jR d 18 0 [.int i0] [] μ = (if i0 < 0 then jR d 18 13 [.int i0] [] μ else (if i0 < 4 then jR d 18 14 [.int i0] [.int 1] μ else jR d 18 13 [.int i0] [] μ)) :=
  (l_iload_n (show gPG 18 0 = some (.iload_n 0) by decide +kernel) rfl).trans <|
  (l_cmp0 (show gPG 18 1 = some (.ifCond .lt 12) by decide +kernel) (t := 13) (by decide +kernel)).trans <| jm_lt.trans <| ite_cg (
  rfl) (
  (l_iload_n (show gPG 18 4 = some (.iload_n 0) by decide +kernel) rfl).trans <|
  (l_iconst (show gPG 18 5 = some (.iconst 4) by decide +kernel) (c := 4) (by decide +kernel)).trans <|
  (l_cmp (show gPG 18 6 = some (.if_icmp .ge 7) by decide +kernel) (t := 13) (by decide +kernel)).trans <| jm_ge.trans <| ite_cg (
  (l_iconst (show gPG 18 9 = some (.iconst 1) by decide +kernel) (c := 1) (by decide +kernel)).trans <|
  l_goto (show gPG 18 10 = some (.goto 4) by decide +kernel) (t := 14) (by decide +kernel)) (
  rfl))
theorem b18_13 (d : Nat) (μ : jM) (u0 : Value) : jR d 18 13 [u0] [] μ = jR d 18 14 [u0] [.int 0] μ :=
  l_iconst (show gPG 18 13 = some (.iconst 0) by decide +kernel) (c := 0) (by decide +kernel)
theorem b18_14 (d : Nat) (μ : jM) (u0 : Value) (s0 : Int32) : jR d 18 14 [u0] [.int s0] μ = (if jrf 4 s0 = true then some (some (.int s0), μ) else none) :=
  l_iret (show gPG 18 14 = some (.ireturn) by decide +kernel) (rc := 4) (by decide +kernel)
-- Top.beginChange
theorem b19_0 (d : Nat) (μ : jM) (a : Nat) : jR (d + 1) 19 0 [.ref a] [] μ = (jgR μ 12 0 (.ref a)).bind fun w1 => (if jrecv μ 3 w1 = true then (jC d 70 [w1] μ).bind fun p2 => jR (d + 1) 19 7 [.ref a] (p2.1.toList ++ []) p2.2 else none) :=
  (l_aload_n (show gPG 19 0 = some (.aload_n 0) by decide +kernel) rfl jr_ref).trans <|
  (l_gR (show gPG 19 1 = some (.getfield 14) by decide +kernel) (kd := 12) (sl := 0) (tc := 1) (fin := 1) (z := 0) (by decide +kernel) (by decide +kernel) (by decide +kernel)).trans <| bd_cg fun w1 hw1 =>
  l_callV (u := 1) (v := w1) (as := []) (show gPG 19 4 = some (jinvI 1 340) by decide +kernel) (by decide) (cc := 70) (na := 1) (kd := 3) (q4 := 0) (z := 11) (rest := []) (by decide +kernel) (by decide +kernel)  rfl (show (1 : Nat) ≤ 1 by decide) rfl cs0 (by decide +kernel) (cav (jr_gR hw1) ca0)
theorem b19_7 (d : Nat) (μ : jM) (a : Nat) : jR (d + 1) 19 7 [.ref a] [] μ = (if jrecv μ 12 (.ref a) = true then (jC d 20 [.ref a] μ).bind fun p1 => jR (d + 1) 19 11 [.ref a] (p1.1.toList ++ []) p1.2 else none) :=
  (l_aload_n (show gPG 19 7 = some (.aload_n 0) by decide +kernel) rfl jr_ref).trans <|
  l_callV (u := 1) (v := .ref a) (as := []) (show gPG 19 8 = some (jinvI 1 280) by decide +kernel) (by decide) (cc := 20) (na := 1) (kd := 12) (q4 := 0) (z := 10) (rest := []) (by decide +kernel) (by decide +kernel)  rfl (show (1 : Nat) ≤ 1 by decide) rfl cs0 (by decide +kernel) (cav jr_ref ca0)
theorem b19_11 (d : Nat) (μ : jM) (u0 : Value) : jR d 19 11 [u0] [] μ = some (none, μ) :=
  l_ret (show gPG 19 11 = some (.return_) by decide +kernel) (by decide +kernel)
-- Top.forgetMerge
theorem b20_0 (d : Nat) (μ : jM) (a : Nat) : jR (d + 1) 20 0 [.ref a] [] μ = (jgR μ 12 6 (.ref a)).bind fun w1 => (if jrecv μ 4 w1 = true then (jC d 75 [w1] μ).bind fun p2 => jR (d + 1) 20 7 [.ref a] (p2.1.toList ++ []) p2.2 else none) :=
  (l_aload_n (show gPG 20 0 = some (.aload_n 0) by decide +kernel) rfl jr_ref).trans <|
  (l_gR (show gPG 20 1 = some (.getfield 47) by decide +kernel) (kd := 12) (sl := 6) (tc := 1) (fin := 1) (z := 0) (by decide +kernel) (by decide +kernel) (by decide +kernel)).trans <| bd_cg fun w1 hw1 =>
  l_callV (u := 1) (v := w1) (as := []) (show gPG 20 4 = some (jinvI 1 343) by decide +kernel) (by decide) (cc := 75) (na := 1) (kd := 4) (q4 := 0) (z := 11) (rest := []) (by decide +kernel) (by decide +kernel)  rfl (show (1 : Nat) ≤ 1 by decide) rfl cs0 (by decide +kernel) (cav (jr_gR hw1) ca0)
theorem b20_7 (d : Nat) (μ : jM) (a : Nat) : jR d 20 7 [.ref a] [] μ = (jpI μ 12 7 2 (.ref a) 0).bind fun m1 => some (none, m1) :=
  (l_aload_n (show gPG 20 7 = some (.aload_n 0) by decide +kernel) rfl jr_ref).trans <|
  (l_iconst (show gPG 20 8 = some (.iconst 0) by decide +kernel) (c := 0) (by decide +kernel)).trans <|
  (l_pI (show gPG 20 9 = some (.putfield 251) by decide +kernel) (kd := 12) (sl := 7) (tc := 2) (fin := 0) (z := 0) (by decide +kernel) (by decide +kernel) (by decide +kernel)).trans <| bd_cg fun m1 hm1 =>
  l_ret (show gPG 20 12 = some (.return_) by decide +kernel) (by decide +kernel)
-- Top.row
theorem b21_0 (d : Nat) (μ : jM) (a : Nat) (i1 : Int32) (i2 : Int32) (i3 : Int32) : jR (d + 1) 21 0 [.ref a, .int i1, .int i2, .int i3, .retAddr 0] [] μ = (jC d 16 [.int i1] μ).bind fun p1 => jR (d + 1) 21 4 [.ref a, .int i1, .int i2, .int i3, .retAddr 0] (p1.1.toList ++ []) p1.2 :=
  (l_iload_n (show gPG 21 0 = some (.iload_n 1) by decide +kernel) rfl).trans <|
  l_callS (u := 2) (as := [.int i1]) (show gPG 21 1 = some (jinvI 2 136) by decide +kernel) (by decide) (cc := 16) (na := 1) (q4 := 0) (z := 12) (rest := []) (by decide +kernel) (by decide +kernel)  rfl (show (1 : Nat) ≤ 1 by decide) rfl cs0 (by decide +kernel) (cai ca0) (fun e => absurd e (by decide))
theorem b21_4 (d : Nat) (μ : jM) (a : Nat) (i1 : Int32) (i2 : Int32) (i3 : Int32) (u4 : Value) (s0 : Int32) : jR (d + 1) 21 4 [.ref a, .int i1, .int i2, .int i3, u4] [.int s0] μ = (if s0 = 0 then jR (d + 1) 21 36 [.ref a, .int i1, .int i2, .int i3, u4] [] μ else (jgR μ 12 0 (.ref a)).bind fun w1 => (if jrecv μ 3 w1 = true then (jC d 69 [w1, .int i1] μ).bind fun p2 => jR (d + 1) 21 17 [.ref a, .int i1, .int i2, .int i3, u4] (p2.1.toList ++ [.int 0, .int i2]) p2.2 else none)) :=
  (l_cmp0 (show gPG 21 4 = some (.ifCond .eq 32) by decide +kernel) (t := 36) (by decide +kernel)).trans <| jm_eq.trans <| ite_cg (
  rfl) (
  (l_iload_n (show gPG 21 7 = some (.iload_n 2) by decide +kernel) rfl).trans <|
  (l_iconst (show gPG 21 8 = some (.iconst 0) by decide +kernel) (c := 0) (by decide +kernel)).trans <|
  (l_aload_n (show gPG 21 9 = some (.aload_n 0) by decide +kernel) rfl jr_ref).trans <|
  (l_gR (show gPG 21 10 = some (.getfield 14) by decide +kernel) (kd := 12) (sl := 0) (tc := 1) (fin := 1) (z := 0) (by decide +kernel) (by decide +kernel) (by decide +kernel)).trans <| bd_cg fun w1 hw1 =>
  (l_iload_n (show gPG 21 13 = some (.iload_n 1) by decide +kernel) rfl).trans <|
  l_callV (u := 1) (v := w1) (as := [.int i1]) (show gPG 21 14 = some (jinvI 1 104) by decide +kernel) (by decide) (cc := 69) (na := 2) (kd := 3) (q4 := 0) (z := 11) (rest := [.int 0, .int i2]) (by decide +kernel) (by decide +kernel)  rfl (show (2 : Nat) ≤ 4 by decide) rfl (csi (csi cs0)) (by decide +kernel) (cai (cav (jr_gR hw1) ca0)))
theorem b21_17 (d : Nat) (μ : jM) (a : Nat) (i1 : Int32) (i2 : Int32) (i3 : Int32) (u4 : Value) (s0 : Int32) (s1 : Int32) (s2 : Value) (hs2 : jisref s2 = true) : jR (d + 1) 21 17 [.ref a, .int i1, .int i2, .int i3, u4] [s2, .int s1, .int s0] μ = (jgI μ 6 0 s2).bind fun x1 => (jC d 13 [.int s0, .int s1, .int x1] μ).bind fun p2 => jR (d + 1) 21 23 [.ref a, .int i1, .int i2, .int i3, u4] (p2.1.toList ++ []) p2.2 :=
  (l_gI (show gPG 21 17 = some (.getfield 139) by decide +kernel) (kd := 6) (sl := 0) (tc := 0) (fin := 0) (z := 1) (by decide +kernel) (by decide +kernel) (by decide +kernel)).trans <| bd_cg fun x1 hx1 =>
  l_callS (u := 2) (as := [.int s0, .int s1, .int x1]) (show gPG 21 20 = some (jinvI 2 85) by decide +kernel) (by decide) (cc := 13) (na := 3) (q4 := 0) (z := 12) (rest := []) (by decide +kernel) (by decide +kernel)  rfl (show (3 : Nat) ≤ 3 by decide) rfl cs0 (by decide +kernel) (cai (cai (cai ca0))) (fun e => absurd e (by decide))
theorem b21_23 (d : Nat) (μ : jM) (a : Nat) (i1 : Int32) (i2 : Int32) (i3 : Int32) (u4 : Value) (s0 : Int32) : jR (d + 1) 21 23 [.ref a, .int i1, .int i2, .int i3, u4] [.int s0] μ = (if s0 = 0 then jR (d + 1) 21 36 [.ref a, .int i1, .int i2, .int i3, u4] [] μ else (jC d 13 [.int i3, .int 1, .int 99] μ).bind fun p1 => jR (d + 1) 21 33 [.ref a, .int i1, .int i2, .int i3, u4] (p1.1.toList ++ []) p1.2) :=
  (l_cmp0 (show gPG 21 23 = some (.ifCond .eq 13) by decide +kernel) (t := 36) (by decide +kernel)).trans <| jm_eq.trans <| ite_cg (
  rfl) (
  (l_iload_n (show gPG 21 26 = some (.iload_n 3) by decide +kernel) rfl).trans <|
  (l_iconst (show gPG 21 27 = some (.iconst 1) by decide +kernel) (c := 1) (by decide +kernel)).trans <|
  (l_bipush (show gPG 21 28 = some (.bipush 99) by decide +kernel) (c := 99) (by decide +kernel)).trans <|
  l_callS (u := 2) (as := [.int i3, .int 1, .int 99]) (show gPG 21 30 = some (jinvI 2 85) by decide +kernel) (by decide) (cc := 13) (na := 3) (q4 := 0) (z := 12) (rest := []) (by decide +kernel) (by decide +kernel)  rfl (show (3 : Nat) ≤ 3 by decide) rfl cs0 (by decide +kernel) (cai (cai (cai ca0))) (fun e => absurd e (by decide)))
theorem b21_33 (d : Nat) (μ : jM) (a : Nat) (i1 : Int32) (i2 : Int32) (i3 : Int32) (u4 : Value) (s0 : Int32) : jR (d + 1) 21 33 [.ref a, .int i1, .int i2, .int i3, u4] [.int s0] μ = (if s0 = 0 then jR (d + 1) 21 36 [.ref a, .int i1, .int i2, .int i3, u4] [] μ else (jgR μ 12 0 (.ref a)).bind fun w1 => (if jrecv μ 3 w1 = true then (jC d 69 [w1, .int i1] μ).bind fun p2 => jR (d + 1) 21 47 [.ref a, .int i1, .int i2, .int i3, u4] (p2.1.toList ++ []) p2.2 else none)) :=
  (l_cmp0 (show gPG 21 33 = some (.ifCond .ne 6) by decide +kernel) (t := 39) (by decide +kernel)).trans <| jm_ne.trans <| ite_cg (
  rfl) (
  (l_aload_n (show gPG 21 39 = some (.aload_n 0) by decide +kernel) rfl jr_ref).trans <|
  (l_gR (show gPG 21 40 = some (.getfield 14) by decide +kernel) (kd := 12) (sl := 0) (tc := 1) (fin := 1) (z := 0) (by decide +kernel) (by decide +kernel) (by decide +kernel)).trans <| bd_cg fun w1 hw1 =>
  (l_iload_n (show gPG 21 43 = some (.iload_n 1) by decide +kernel) rfl).trans <|
  l_callV (u := 1) (v := w1) (as := [.int i1]) (show gPG 21 44 = some (jinvI 1 104) by decide +kernel) (by decide) (cc := 69) (na := 2) (kd := 3) (q4 := 0) (z := 11) (rest := []) (by decide +kernel) (by decide +kernel)  rfl (show (2 : Nat) ≤ 2 by decide) rfl cs0 (by decide +kernel) (cai (cav (jr_gR hw1) ca0)))
theorem b21_36 (d : Nat) (μ : jM) (u0 : Value) (u1 : Value) (u2 : Value) (u3 : Value) (u4 : Value) : jR d 21 36 [u0, u1, u2, u3, u4] [] μ = some (some (.int (-2)), μ) :=
  (l_bipush (show gPG 21 36 = some (.bipush (-2)) by decide +kernel) (c := (-2)) (by decide +kernel)).trans <|
  l_iret1 (show gPG 21 38 = some (.ireturn) by decide +kernel) (by decide +kernel)
theorem b21_47 (d : Nat) (μ : jM) (a : Nat) (u1 : Value) (i2 : Int32) (i3 : Int32) (u4 : Value) (s0 : Value) (hs0 : jisref s0 = true) : jR (d + 1) 21 47 [.ref a, u1, .int i2, .int i3, u4] [s0] μ = (if jrecv μ 6 s0 = true then (jC d 92 [s0, .int i3] μ).bind fun p1 => jR (d + 1) 21 55 [.ref a, u1, .int i2, .int i3, s0] (p1.1.toList ++ []) p1.2 else none) :=
  (l_astore (show gPG 21 47 = some (.astore 4) by decide +kernel) (ls := [.ref a, u1, .int i2, .int i3, u4]) hs0 (show (4 : Nat) < 5 by decide) (show _ = ([.ref a, u1, .int i2, .int i3, s0] : List Value) from rfl)).trans <|
  (l_aload (show gPG 21 49 = some (.aload 4) by decide +kernel) rfl hs0).trans <|
  (l_iload_n (show gPG 21 51 = some (.iload_n 3) by decide +kernel) rfl).trans <|
  l_callV (u := 1) (v := s0) (as := [.int i3]) (show gPG 21 52 = some (jinvI 1 142) by decide +kernel) (by decide) (cc := 92) (na := 2) (kd := 6) (q4 := 0) (z := 11) (rest := []) (by decide +kernel) (by decide +kernel)  rfl (show (2 : Nat) ≤ 2 by decide) rfl cs0 (by decide +kernel) (cai (cav hs0 ca0))
theorem b21_55 (d : Nat) (μ : jM) (a : Nat) (u1 : Value) (i2 : Int32) (i3 : Int32) (r4 : Value) (s0 : Int32) (h4 : jisref r4 = true) : jR (d + 1) 21 55 [.ref a, u1, .int i2, .int i3, r4] [.int s0] μ = (if s0 = (-1) then (jgI μ 6 0 r4).bind fun x1 => (if x1 < 8 then (if jrecv μ 12 (.ref a) = true then (jC d 19 [.ref a] μ).bind fun p2 => jR (d + 1) 21 79 [.ref a, u1, .int i2, .int i3, r4] (p2.1.toList ++ []) p2.2 else none) else some (some (.int (-4)), μ)) else some (some (.int (-3)), μ)) :=
  (l_iconst (show gPG 21 55 = some (.iconst (-1)) by decide +kernel) (c := (-1)) (by decide +kernel)).trans <|
  (l_cmp (show gPG 21 56 = some (.if_icmp .eq 6) by decide +kernel) (t := 62) (by decide +kernel)).trans <| jm_eq.trans <| ite_cg (
  (l_aload (show gPG 21 62 = some (.aload 4) by decide +kernel) rfl h4).trans <|
  (l_gI (show gPG 21 64 = some (.getfield 139) by decide +kernel) (kd := 6) (sl := 0) (tc := 0) (fin := 0) (z := 1) (by decide +kernel) (by decide +kernel) (by decide +kernel)).trans <| bd_cg fun x1 hx1 =>
  (l_bipush (show gPG 21 67 = some (.bipush 8) by decide +kernel) (c := 8) (by decide +kernel)).trans <|
  (l_cmp (show gPG 21 69 = some (.if_icmp .lt 6) by decide +kernel) (t := 75) (by decide +kernel)).trans <| jm_lt.trans <| ite_cg (
  (l_aload_n (show gPG 21 75 = some (.aload_n 0) by decide +kernel) rfl jr_ref).trans <|
  l_callV (u := 1) (v := .ref a) (as := []) (show gPG 21 76 = some (jinvI 1 119) by decide +kernel) (by decide) (cc := 19) (na := 1) (kd := 12) (q4 := 0) (z := 10) (rest := []) (by decide +kernel) (by decide +kernel)  rfl (show (1 : Nat) ≤ 1 by decide) rfl cs0 (by decide +kernel) (cav jr_ref ca0)) (
  (l_bipush (show gPG 21 72 = some (.bipush (-4)) by decide +kernel) (c := (-4)) (by decide +kernel)).trans <|
  l_iret1 (show gPG 21 74 = some (.ireturn) by decide +kernel) (by decide +kernel))) (
  (l_bipush (show gPG 21 59 = some (.bipush (-3)) by decide +kernel) (c := (-3)) (by decide +kernel)).trans <|
  l_iret1 (show gPG 21 61 = some (.ireturn) by decide +kernel) (by decide +kernel))
theorem b21_79 (d : Nat) (μ : jM) (u0 : Value) (u1 : Value) (i2 : Int32) (i3 : Int32) (r4 : Value) (h4 : jisref r4 = true) : jR (d + 1) 21 79 [u0, u1, .int i2, .int i3, r4] [] μ = (if jrecv μ 6 r4 = true then (jC d 93 [r4, .int i2, .int i3] μ).bind fun p1 => jR (d + 1) 21 86 [u0, u1, .int i2, .int i3, r4] (p1.1.toList ++ []) p1.2 else none) :=
  (l_aload (show gPG 21 79 = some (.aload 4) by decide +kernel) rfl h4).trans <|
  (l_iload_n (show gPG 21 81 = some (.iload_n 2) by decide +kernel) rfl).trans <|
  (l_iload_n (show gPG 21 82 = some (.iload_n 3) by decide +kernel) rfl).trans <|
  l_callV (u := 1) (v := r4) (as := [.int i2, .int i3]) (show gPG 21 83 = some (jinvI 1 146) by decide +kernel) (by decide) (cc := 93) (na := 3) (kd := 6) (q4 := 0) (z := 11) (rest := []) (by decide +kernel) (by decide +kernel)  rfl (show (3 : Nat) ≤ 3 by decide) rfl cs0 (by decide +kernel) (cai (cai (cav h4 ca0)))
theorem b21_86 (d : Nat) (μ : jM) (u0 : Value) (u1 : Value) (u2 : Value) (u3 : Value) (r4 : Value) (h4 : jisref r4 = true) : jR d 21 86 [u0, u1, u2, u3, r4] [] μ = (jgI μ 6 0 r4).bind fun x1 => some (some (.int x1), μ) :=
  (l_aload (show gPG 21 86 = some (.aload 4) by decide +kernel) rfl h4).trans <|
  (l_gI (show gPG 21 88 = some (.getfield 139) by decide +kernel) (kd := 6) (sl := 0) (tc := 0) (fin := 0) (z := 1) (by decide +kernel) (by decide +kernel) (by decide +kernel)).trans <| bd_cg fun x1 hx1 =>
  l_iret1 (show gPG 21 91 = some (.ireturn) by decide +kernel) (by decide +kernel)
-- Top.drop
theorem b22_0 (d : Nat) (μ : jM) (a : Nat) (i1 : Int32) (i2 : Int32) : jR (d + 1) 22 0 [.ref a, .int i1, .int i2, .retAddr 0] [] μ = (if jrecv μ 12 (.ref a) = true then (jC d 23 [.ref a, .int i1, .int i2] μ).bind fun p1 => jR (d + 1) 22 6 [.ref a, .int i1, .int i2, .retAddr 0] (p1.1.toList ++ []) p1.2 else none) :=
  (l_aload_n (show gPG 22 0 = some (.aload_n 0) by decide +kernel) rfl jr_ref).trans <|
  (l_iload_n (show gPG 22 1 = some (.iload_n 1) by decide +kernel) rfl).trans <|
  (l_iload_n (show gPG 22 2 = some (.iload_n 2) by decide +kernel) rfl).trans <|
  l_callV (u := 1) (v := .ref a) (as := [.int i1, .int i2]) (show gPG 22 3 = some (jinvI 1 150) by decide +kernel) (by decide) (cc := 23) (na := 3) (kd := 12) (q4 := 0) (z := 10) (rest := []) (by decide +kernel) (by decide +kernel)  rfl (show (3 : Nat) ≤ 3 by decide) rfl cs0 (by decide +kernel) (cai (cai (cav jr_ref ca0)))
theorem b22_6 (d : Nat) (μ : jM) (a : Nat) (i1 : Int32) (i2 : Int32) (u3 : Value) (s0 : Int32) : jR (d + 1) 22 6 [.ref a, .int i1, .int i2, u3] [.int s0] μ = (if s0 = 0 then some (some (.int (-2)), μ) else (if jrecv μ 12 (.ref a) = true then (jC d 19 [.ref a] μ).bind fun p1 => jR (d + 1) 22 16 [.ref a, .int i1, .int i2, u3] (p1.1.toList ++ []) p1.2 else none)) :=
  (l_cmp0 (show gPG 22 6 = some (.ifCond .ne 6) by decide +kernel) (t := 12) (by decide +kernel)).trans <| jm_ne.trans <| ite_cg (
  (l_bipush (show gPG 22 9 = some (.bipush (-2)) by decide +kernel) (c := (-2)) (by decide +kernel)).trans <|
  l_iret1 (show gPG 22 11 = some (.ireturn) by decide +kernel) (by decide +kernel)) (
  (l_aload_n (show gPG 22 12 = some (.aload_n 0) by decide +kernel) rfl jr_ref).trans <|
  l_callV (u := 1) (v := .ref a) (as := []) (show gPG 22 13 = some (jinvI 1 119) by decide +kernel) (by decide) (cc := 19) (na := 1) (kd := 12) (q4 := 0) (z := 10) (rest := []) (by decide +kernel) (by decide +kernel)  rfl (show (1 : Nat) ≤ 1 by decide) rfl cs0 (by decide +kernel) (cav jr_ref ca0))
theorem b22_16 (d : Nat) (μ : jM) (a : Nat) (i1 : Int32) (i2 : Int32) (u3 : Value) : jR (d + 1) 22 16 [.ref a, .int i1, .int i2, u3] [] μ = (jgR μ 12 0 (.ref a)).bind fun w1 => (if jrecv μ 3 w1 = true then (jC d 69 [w1, .int i1] μ).bind fun p2 => jR (d + 1) 22 24 [.ref a, .int i1, .int i2, u3] (p2.1.toList ++ []) p2.2 else none) :=
  (l_aload_n (show gPG 22 16 = some (.aload_n 0) by decide +kernel) rfl jr_ref).trans <|
  (l_gR (show gPG 22 17 = some (.getfield 14) by decide +kernel) (kd := 12) (sl := 0) (tc := 1) (fin := 1) (z := 0) (by decide +kernel) (by decide +kernel) (by decide +kernel)).trans <| bd_cg fun w1 hw1 =>
  (l_iload_n (show gPG 22 20 = some (.iload_n 1) by decide +kernel) rfl).trans <|
  l_callV (u := 1) (v := w1) (as := [.int i1]) (show gPG 22 21 = some (jinvI 1 104) by decide +kernel) (by decide) (cc := 69) (na := 2) (kd := 3) (q4 := 0) (z := 11) (rest := []) (by decide +kernel) (by decide +kernel)  rfl (show (2 : Nat) ≤ 2 by decide) rfl cs0 (by decide +kernel) (cai (cav (jr_gR hw1) ca0))
theorem b22_24 (d : Nat) (μ : jM) (a : Nat) (i1 : Int32) (i2 : Int32) (u3 : Value) (s0 : Value) (hs0 : jisref s0 = true) : jR (d + 1) 22 24 [.ref a, .int i1, .int i2, u3] [s0] μ = (if jrecv μ 6 s0 = true then (jC d 89 [s0, .int i2] μ).bind fun p1 => jR (d + 1) 22 28 [.ref a, .int i1, .int i2, u3] (p1.1.toList ++ []) p1.2 else none) :=
  (l_iload_n (show gPG 22 24 = some (.iload_n 2) by decide +kernel) rfl).trans <|
  l_callV (u := 1) (v := s0) (as := [.int i2]) (show gPG 22 25 = some (jinvI 1 154) by decide +kernel) (by decide) (cc := 89) (na := 2) (kd := 6) (q4 := 0) (z := 11) (rest := []) (by decide +kernel) (by decide +kernel)  rfl (show (2 : Nat) ≤ 2 by decide) rfl cs0 (by decide +kernel) (cai (cav hs0 ca0))
theorem b22_28 (d : Nat) (μ : jM) (a : Nat) (i1 : Int32) (i2 : Int32) (u3 : Value) (s0 : Int32) : jR (d + 1) 22 28 [.ref a, .int i1, .int i2, u3] [.int s0] μ = (jgR μ 12 0 (.ref a)).bind fun w1 => (if jrecv μ 3 w1 = true then (jC d 69 [w1, .int i1] μ).bind fun p2 => jR (d + 1) 22 37 [.ref a, .int i1, .int i2, .int s0] (p2.1.toList ++ []) p2.2 else none) :=
  (l_istore_n (show gPG 22 28 = some (.istore_n 3) by decide +kernel) (ls := [.ref a, .int i1, .int i2, u3]) (show (3 : Nat) < 4 by decide) (show _ = ([.ref a, .int i1, .int i2, .int s0] : List Value) from rfl)).trans <|
  (l_aload_n (show gPG 22 29 = some (.aload_n 0) by decide +kernel) rfl jr_ref).trans <|
  (l_gR (show gPG 22 30 = some (.getfield 14) by decide +kernel) (kd := 12) (sl := 0) (tc := 1) (fin := 1) (z := 0) (by decide +kernel) (by decide +kernel) (by decide +kernel)).trans <| bd_cg fun w1 hw1 =>
  (l_iload_n (show gPG 22 33 = some (.iload_n 1) by decide +kernel) rfl).trans <|
  l_callV (u := 1) (v := w1) (as := [.int i1]) (show gPG 22 34 = some (jinvI 1 104) by decide +kernel) (by decide) (cc := 69) (na := 2) (kd := 3) (q4 := 0) (z := 11) (rest := []) (by decide +kernel) (by decide +kernel)  rfl (show (2 : Nat) ≤ 2 by decide) rfl cs0 (by decide +kernel) (cai (cav (jr_gR hw1) ca0))
theorem b22_37 (d : Nat) (μ : jM) (u0 : Value) (u1 : Value) (i2 : Int32) (i3 : Int32) (s0 : Value) (hs0 : jisref s0 = true) : jR (d + 1) 22 37 [u0, u1, .int i2, .int i3] [s0] μ = (if jrecv μ 6 s0 = true then (jC d 98 [s0, .int i2] μ).bind fun p1 => jR (d + 1) 22 41 [u0, u1, .int i2, .int i3] (p1.1.toList ++ []) p1.2 else none) :=
  (l_iload_n (show gPG 22 37 = some (.iload_n 2) by decide +kernel) rfl).trans <|
  l_callV (u := 1) (v := s0) (as := [.int i2]) (show gPG 22 38 = some (jinvI 1 157) by decide +kernel) (by decide) (cc := 98) (na := 2) (kd := 6) (q4 := 0) (z := 11) (rest := []) (by decide +kernel) (by decide +kernel)  rfl (show (2 : Nat) ≤ 2 by decide) rfl cs0 (by decide +kernel) (cai (cav hs0 ca0))
theorem b22_41 (d : Nat) (μ : jM) (u0 : Value) (u1 : Value) (u2 : Value) (i3 : Int32) : jR d 22 41 [u0, u1, u2, .int i3] [] μ = some (some (.int i3), μ) :=
  (l_iload_n (show gPG 22 41 = some (.iload_n 3) by decide +kernel) rfl).trans <|
  l_iret1 (show gPG 22 42 = some (.ireturn) by decide +kernel) (by decide +kernel)
-- Top.isInputRow
theorem b23_0 (d : Nat) (μ : jM) (a : Nat) (i1 : Int32) (i2 : Int32) : jR (d + 1) 23 0 [.ref a, .int i1, .int i2] [] μ = (jC d 16 [.int i1] μ).bind fun p1 => jR (d + 1) 23 4 [.ref a, .int i1, .int i2] (p1.1.toList ++ []) p1.2 :=
  (l_iload_n (show gPG 23 0 = some (.iload_n 1) by decide +kernel) rfl).trans <|
  l_callS (u := 2) (as := [.int i1]) (show gPG 23 1 = some (jinvI 2 136) by decide +kernel) (by decide) (cc := 16) (na := 1) (q4 := 0) (z := 12) (rest := []) (by decide +kernel) (by decide +kernel)  rfl (show (1 : Nat) ≤ 1 by decide) rfl cs0 (by decide +kernel) (cai ca0) (fun e => absurd e (by decide))
theorem b23_4 (d : Nat) (μ : jM) (a : Nat) (i1 : Int32) (i2 : Int32) (s0 : Int32) : jR (d + 1) 23 4 [.ref a, .int i1, .int i2] [.int s0] μ = (if s0 = 0 then jR (d + 1) 23 30 [.ref a, .int i1, .int i2] [] μ else (if i2 < 0 then jR (d + 1) 23 30 [.ref a, .int i1, .int i2] [] μ else (jgR μ 12 0 (.ref a)).bind fun w1 => (if jrecv μ 3 w1 = true then (jC d 69 [w1, .int i1] μ).bind fun p2 => jR (d + 1) 23 20 [.ref a, .int i1, .int i2] (p2.1.toList ++ [.int i2]) p2.2 else none))) :=
  (l_cmp0 (show gPG 23 4 = some (.ifCond .eq 26) by decide +kernel) (t := 30) (by decide +kernel)).trans <| jm_eq.trans <| ite_cg (
  rfl) (
  (l_iload_n (show gPG 23 7 = some (.iload_n 2) by decide +kernel) rfl).trans <|
  (l_cmp0 (show gPG 23 8 = some (.ifCond .lt 22) by decide +kernel) (t := 30) (by decide +kernel)).trans <| jm_lt.trans <| ite_cg (
  rfl) (
  (l_iload_n (show gPG 23 11 = some (.iload_n 2) by decide +kernel) rfl).trans <|
  (l_aload_n (show gPG 23 12 = some (.aload_n 0) by decide +kernel) rfl jr_ref).trans <|
  (l_gR (show gPG 23 13 = some (.getfield 14) by decide +kernel) (kd := 12) (sl := 0) (tc := 1) (fin := 1) (z := 0) (by decide +kernel) (by decide +kernel) (by decide +kernel)).trans <| bd_cg fun w1 hw1 =>
  (l_iload_n (show gPG 23 16 = some (.iload_n 1) by decide +kernel) rfl).trans <|
  l_callV (u := 1) (v := w1) (as := [.int i1]) (show gPG 23 17 = some (jinvI 1 104) by decide +kernel) (by decide) (cc := 69) (na := 2) (kd := 3) (q4 := 0) (z := 11) (rest := [.int i2]) (by decide +kernel) (by decide +kernel)  rfl (show (2 : Nat) ≤ 3 by decide) rfl (csi cs0) (by decide +kernel) (cai (cav (jr_gR hw1) ca0))))
theorem b23_20 (d : Nat) (μ : jM) (u0 : Value) (u1 : Value) (u2 : Value) (s0 : Int32) (s1 : Value) (hs1 : jisref s1 = true) : jR d 23 20 [u0, u1, u2] [s1, .int s0] μ = (jgI μ 6 0 s1).bind fun x1 => (if s0 < x1 then jR d 23 31 [u0, u1, u2] [.int 1] μ else jR d 23 30 [u0, u1, u2] [] μ) :=
  (l_gI (show gPG 23 20 = some (.getfield 139) by decide +kernel) (kd := 6) (sl := 0) (tc := 0) (fin := 0) (z := 1) (by decide +kernel) (by decide +kernel) (by decide +kernel)).trans <| bd_cg fun x1 hx1 =>
  (l_cmp (show gPG 23 23 = some (.if_icmp .ge 7) by decide +kernel) (t := 30) (by decide +kernel)).trans <| jm_ge.trans <| ite_cg (
  (l_iconst (show gPG 23 26 = some (.iconst 1) by decide +kernel) (c := 1) (by decide +kernel)).trans <|
  l_goto (show gPG 23 27 = some (.goto 4) by decide +kernel) (t := 31) (by decide +kernel)) (
  rfl)
theorem b23_30 (d : Nat) (μ : jM) (u0 : Value) (u1 : Value) (u2 : Value) : jR d 23 30 [u0, u1, u2] [] μ = jR d 23 31 [u0, u1, u2] [.int 0] μ :=
  l_iconst (show gPG 23 30 = some (.iconst 0) by decide +kernel) (c := 0) (by decide +kernel)
theorem b23_31 (d : Nat) (μ : jM) (u0 : Value) (u1 : Value) (u2 : Value) (s0 : Int32) : jR d 23 31 [u0, u1, u2] [.int s0] μ = (if jrf 4 s0 = true then some (some (.int s0), μ) else none) :=
  l_iret (show gPG 23 31 = some (.ireturn) by decide +kernel) (rc := 4) (by decide +kernel)
-- Top.move
theorem b24_0 (d : Nat) (μ : jM) (a : Nat) (i1 : Int32) (i2 : Int32) (i3 : Int32) : jR (d + 1) 24 0 [.ref a, .int i1, .int i2, .int i3] [] μ = (if jrecv μ 12 (.ref a) = true then (jC d 23 [.ref a, .int i1, .int i2] μ).bind fun p1 => jR (d + 1) 24 6 [.ref a, .int i1, .int i2, .int i3] (p1.1.toList ++ []) p1.2 else none) :=
  (l_aload_n (show gPG 24 0 = some (.aload_n 0) by decide +kernel) rfl jr_ref).trans <|
  (l_iload_n (show gPG 24 1 = some (.iload_n 1) by decide +kernel) rfl).trans <|
  (l_iload_n (show gPG 24 2 = some (.iload_n 2) by decide +kernel) rfl).trans <|
  l_callV (u := 1) (v := .ref a) (as := [.int i1, .int i2]) (show gPG 24 3 = some (jinvI 1 150) by decide +kernel) (by decide) (cc := 23) (na := 3) (kd := 12) (q4 := 0) (z := 10) (rest := []) (by decide +kernel) (by decide +kernel)  rfl (show (3 : Nat) ≤ 3 by decide) rfl cs0 (by decide +kernel) (cai (cai (cav jr_ref ca0)))
theorem b24_6 (d : Nat) (μ : jM) (a : Nat) (i1 : Int32) (i2 : Int32) (i3 : Int32) (s0 : Int32) : jR (d + 1) 24 6 [.ref a, .int i1, .int i2, .int i3] [.int s0] μ = (if s0 = 0 then jR (d + 1) 24 18 [.ref a, .int i1, .int i2, .int i3] [] μ else (if jrecv μ 12 (.ref a) = true then (jC d 23 [.ref a, .int i1, .int i3] μ).bind fun p1 => jR (d + 1) 24 15 [.ref a, .int i1, .int i2, .int i3] (p1.1.toList ++ []) p1.2 else none)) :=
  (l_cmp0 (show gPG 24 6 = some (.ifCond .eq 12) by decide +kernel) (t := 18) (by decide +kernel)).trans <| jm_eq.trans <| ite_cg (
  rfl) (
  (l_aload_n (show gPG 24 9 = some (.aload_n 0) by decide +kernel) rfl jr_ref).trans <|
  (l_iload_n (show gPG 24 10 = some (.iload_n 1) by decide +kernel) rfl).trans <|
  (l_iload_n (show gPG 24 11 = some (.iload_n 3) by decide +kernel) rfl).trans <|
  l_callV (u := 1) (v := .ref a) (as := [.int i1, .int i3]) (show gPG 24 12 = some (jinvI 1 150) by decide +kernel) (by decide) (cc := 23) (na := 3) (kd := 12) (q4 := 0) (z := 10) (rest := []) (by decide +kernel) (by decide +kernel)  rfl (show (3 : Nat) ≤ 3 by decide) rfl cs0 (by decide +kernel) (cai (cai (cav jr_ref ca0))))
theorem b24_15 (d : Nat) (μ : jM) (a : Nat) (i1 : Int32) (i2 : Int32) (i3 : Int32) (s0 : Int32) : jR (d + 1) 24 15 [.ref a, .int i1, .int i2, .int i3] [.int s0] μ = (if s0 = 0 then jR (d + 1) 24 18 [.ref a, .int i1, .int i2, .int i3] [] μ else (if jrecv μ 12 (.ref a) = true then (jC d 19 [.ref a] μ).bind fun p1 => jR (d + 1) 24 25 [.ref a, .int i1, .int i2, .int i3] (p1.1.toList ++ []) p1.2 else none)) :=
  (l_cmp0 (show gPG 24 15 = some (.ifCond .ne 6) by decide +kernel) (t := 21) (by decide +kernel)).trans <| jm_ne.trans <| ite_cg (
  rfl) (
  (l_aload_n (show gPG 24 21 = some (.aload_n 0) by decide +kernel) rfl jr_ref).trans <|
  l_callV (u := 1) (v := .ref a) (as := []) (show gPG 24 22 = some (jinvI 1 119) by decide +kernel) (by decide) (cc := 19) (na := 1) (kd := 12) (q4 := 0) (z := 10) (rest := []) (by decide +kernel) (by decide +kernel)  rfl (show (1 : Nat) ≤ 1 by decide) rfl cs0 (by decide +kernel) (cav jr_ref ca0))
theorem b24_18 (d : Nat) (μ : jM) (u0 : Value) (u1 : Value) (u2 : Value) (u3 : Value) : jR d 24 18 [u0, u1, u2, u3] [] μ = some (some (.int (-2)), μ) :=
  (l_bipush (show gPG 24 18 = some (.bipush (-2)) by decide +kernel) (c := (-2)) (by decide +kernel)).trans <|
  l_iret1 (show gPG 24 20 = some (.ireturn) by decide +kernel) (by decide +kernel)
theorem b24_25 (d : Nat) (μ : jM) (a : Nat) (i1 : Int32) (i2 : Int32) (i3 : Int32) : jR (d + 1) 24 25 [.ref a, .int i1, .int i2, .int i3] [] μ = (jgR μ 12 0 (.ref a)).bind fun w1 => (if jrecv μ 3 w1 = true then (jC d 69 [w1, .int i1] μ).bind fun p2 => jR (d + 1) 24 33 [.ref a, .int i1, .int i2, .int i3] (p2.1.toList ++ []) p2.2 else none) :=
  (l_aload_n (show gPG 24 25 = some (.aload_n 0) by decide +kernel) rfl jr_ref).trans <|
  (l_gR (show gPG 24 26 = some (.getfield 14) by decide +kernel) (kd := 12) (sl := 0) (tc := 1) (fin := 1) (z := 0) (by decide +kernel) (by decide +kernel) (by decide +kernel)).trans <| bd_cg fun w1 hw1 =>
  (l_iload_n (show gPG 24 29 = some (.iload_n 1) by decide +kernel) rfl).trans <|
  l_callV (u := 1) (v := w1) (as := [.int i1]) (show gPG 24 30 = some (jinvI 1 104) by decide +kernel) (by decide) (cc := 69) (na := 2) (kd := 3) (q4 := 0) (z := 11) (rest := []) (by decide +kernel) (by decide +kernel)  rfl (show (2 : Nat) ≤ 2 by decide) rfl cs0 (by decide +kernel) (cai (cav (jr_gR hw1) ca0))
theorem b24_33 (d : Nat) (μ : jM) (a : Nat) (i1 : Int32) (i2 : Int32) (i3 : Int32) (s0 : Value) (hs0 : jisref s0 = true) : jR (d + 1) 24 33 [.ref a, .int i1, .int i2, .int i3] [s0] μ = (if jrecv μ 6 s0 = true then (jC d 95 [s0, .int i2, .int i3] μ).bind fun p1 => jR (d + 1) 24 38 [.ref a, .int i1, .int i2, .int i3] (p1.1.toList ++ []) p1.2 else none) :=
  (l_iload_n (show gPG 24 33 = some (.iload_n 2) by decide +kernel) rfl).trans <|
  (l_iload_n (show gPG 24 34 = some (.iload_n 3) by decide +kernel) rfl).trans <|
  l_callV (u := 1) (v := s0) (as := [.int i2, .int i3]) (show gPG 24 35 = some (jinvI 1 160) by decide +kernel) (by decide) (cc := 95) (na := 3) (kd := 6) (q4 := 0) (z := 11) (rest := []) (by decide +kernel) (by decide +kernel)  rfl (show (3 : Nat) ≤ 3 by decide) rfl cs0 (by decide +kernel) (cai (cai (cav hs0 ca0)))
theorem b24_38 (d : Nat) (μ : jM) (a : Nat) (i1 : Int32) (u2 : Value) (i3 : Int32) : jR (d + 1) 24 38 [.ref a, .int i1, u2, .int i3] [] μ = (jgR μ 12 0 (.ref a)).bind fun w1 => (if jrecv μ 3 w1 = true then (jC d 69 [w1, .int i1] μ).bind fun p2 => jR (d + 1) 24 46 [.ref a, .int i1, u2, .int i3] (p2.1.toList ++ []) p2.2 else none) :=
  (l_aload_n (show gPG 24 38 = some (.aload_n 0) by decide +kernel) rfl jr_ref).trans <|
  (l_gR (show gPG 24 39 = some (.getfield 14) by decide +kernel) (kd := 12) (sl := 0) (tc := 1) (fin := 1) (z := 0) (by decide +kernel) (by decide +kernel) (by decide +kernel)).trans <| bd_cg fun w1 hw1 =>
  (l_iload_n (show gPG 24 42 = some (.iload_n 1) by decide +kernel) rfl).trans <|
  l_callV (u := 1) (v := w1) (as := [.int i1]) (show gPG 24 43 = some (jinvI 1 104) by decide +kernel) (by decide) (cc := 69) (na := 2) (kd := 3) (q4 := 0) (z := 11) (rest := []) (by decide +kernel) (by decide +kernel)  rfl (show (2 : Nat) ≤ 2 by decide) rfl cs0 (by decide +kernel) (cai (cav (jr_gR hw1) ca0))
theorem b24_46 (d : Nat) (μ : jM) (u0 : Value) (u1 : Value) (u2 : Value) (i3 : Int32) (s0 : Value) (hs0 : jisref s0 = true) : jR (d + 1) 24 46 [u0, u1, u2, .int i3] [s0] μ = (if jrecv μ 6 s0 = true then (jC d 89 [s0, .int i3] μ).bind fun p1 => jR (d + 1) 24 50 [u0, u1, u2, .int i3] (p1.1.toList ++ []) p1.2 else none) :=
  (l_iload_n (show gPG 24 46 = some (.iload_n 3) by decide +kernel) rfl).trans <|
  l_callV (u := 1) (v := s0) (as := [.int i3]) (show gPG 24 47 = some (jinvI 1 154) by decide +kernel) (by decide) (cc := 89) (na := 2) (kd := 6) (q4 := 0) (z := 11) (rest := []) (by decide +kernel) (by decide +kernel)  rfl (show (2 : Nat) ≤ 2 by decide) rfl cs0 (by decide +kernel) (cai (cav hs0 ca0))
theorem b24_50 (d : Nat) (μ : jM) (u0 : Value) (u1 : Value) (u2 : Value) (u3 : Value) (s0 : Int32) : jR d 24 50 [u0, u1, u2, u3] [.int s0] μ = some (some (.int s0), μ) :=
  l_iret1 (show gPG 24 50 = some (.ireturn) by decide +kernel) (by decide +kernel)
-- Top.note
theorem b25_0 (d : Nat) (μ : jM) (a : Nat) (i1 : Int32) (i2 : Int32) (i3 : Int32) (i4 : Int32) : jR (d + 1) 25 0 [.ref a, .int i1, .int i2, .int i3, .int i4, .retAddr 0] [] μ = (if jrecv μ 12 (.ref a) = true then (jC d 15 [.ref a, .int i1, .int i2, .int i3] μ).bind fun p1 => jR (d + 1) 25 7 [.ref a, .int i1, .int i2, .int i3, .int i4, .retAddr 0] (p1.1.toList ++ []) p1.2 else none) :=
  (l_aload_n (show gPG 25 0 = some (.aload_n 0) by decide +kernel) rfl jr_ref).trans <|
  (l_iload_n (show gPG 25 1 = some (.iload_n 1) by decide +kernel) rfl).trans <|
  (l_iload_n (show gPG 25 2 = some (.iload_n 2) by decide +kernel) rfl).trans <|
  (l_iload_n (show gPG 25 3 = some (.iload_n 3) by decide +kernel) rfl).trans <|
  l_callV (u := 1) (v := .ref a) (as := [.int i1, .int i2, .int i3]) (show gPG 25 4 = some (jinvI 1 101) by decide +kernel) (by decide) (cc := 15) (na := 4) (kd := 12) (q4 := 0) (z := 10) (rest := []) (by decide +kernel) (by decide +kernel)  rfl (show (4 : Nat) ≤ 4 by decide) rfl cs0 (by decide +kernel) (cai (cai (cai (cav jr_ref ca0))))
theorem b25_7 (d : Nat) (μ : jM) (a : Nat) (i1 : Int32) (i2 : Int32) (i3 : Int32) (i4 : Int32) (u5 : Value) (s0 : Int32) : jR (d + 1) 25 7 [.ref a, .int i1, .int i2, .int i3, .int i4, u5] [.int s0] μ = (if s0 = 0 then jR (d + 1) 25 21 [.ref a, .int i1, .int i2, .int i3, .int i4, u5] [] μ else (jC d 13 [.int i4, .int 0, .int 99] μ).bind fun p1 => jR (d + 1) 25 18 [.ref a, .int i1, .int i2, .int i3, .int i4, u5] (p1.1.toList ++ []) p1.2) :=
  (l_cmp0 (show gPG 25 7 = some (.ifCond .eq 14) by decide +kernel) (t := 21) (by decide +kernel)).trans <| jm_eq.trans <| ite_cg (
  rfl) (
  (l_iload (show gPG 25 10 = some (.iload 4) by decide +kernel) rfl).trans <|
  (l_iconst (show gPG 25 12 = some (.iconst 0) by decide +kernel) (c := 0) (by decide +kernel)).trans <|
  (l_bipush (show gPG 25 13 = some (.bipush 99) by decide +kernel) (c := 99) (by decide +kernel)).trans <|
  l_callS (u := 2) (as := [.int i4, .int 0, .int 99]) (show gPG 25 15 = some (jinvI 2 85) by decide +kernel) (by decide) (cc := 13) (na := 3) (q4 := 0) (z := 12) (rest := []) (by decide +kernel) (by decide +kernel)  rfl (show (3 : Nat) ≤ 3 by decide) rfl cs0 (by decide +kernel) (cai (cai (cai ca0))) (fun e => absurd e (by decide)))
theorem b25_18 (d : Nat) (μ : jM) (a : Nat) (i1 : Int32) (i2 : Int32) (i3 : Int32) (i4 : Int32) (u5 : Value) (s0 : Int32) : jR (d + 1) 25 18 [.ref a, .int i1, .int i2, .int i3, .int i4, u5] [.int s0] μ = (if s0 = 0 then jR (d + 1) 25 21 [.ref a, .int i1, .int i2, .int i3, .int i4, u5] [] μ else (if jrecv μ 12 (.ref a) = true then (jC d 19 [.ref a] μ).bind fun p1 => jR (d + 1) 25 28 [.ref a, .int i1, .int i2, .int i3, .int i4, u5] (p1.1.toList ++ []) p1.2 else none)) :=
  (l_cmp0 (show gPG 25 18 = some (.ifCond .ne 6) by decide +kernel) (t := 24) (by decide +kernel)).trans <| jm_ne.trans <| ite_cg (
  rfl) (
  (l_aload_n (show gPG 25 24 = some (.aload_n 0) by decide +kernel) rfl jr_ref).trans <|
  l_callV (u := 1) (v := .ref a) (as := []) (show gPG 25 25 = some (jinvI 1 119) by decide +kernel) (by decide) (cc := 19) (na := 1) (kd := 12) (q4 := 0) (z := 10) (rest := []) (by decide +kernel) (by decide +kernel)  rfl (show (1 : Nat) ≤ 1 by decide) rfl cs0 (by decide +kernel) (cav jr_ref ca0))
theorem b25_21 (d : Nat) (μ : jM) (u0 : Value) (u1 : Value) (u2 : Value) (u3 : Value) (u4 : Value) (u5 : Value) : jR d 25 21 [u0, u1, u2, u3, u4, u5] [] μ = some (some (.int (-2)), μ) :=
  (l_bipush (show gPG 25 21 = some (.bipush (-2)) by decide +kernel) (c := (-2)) (by decide +kernel)).trans <|
  l_iret1 (show gPG 25 23 = some (.ireturn) by decide +kernel) (by decide +kernel)
theorem b25_28 (d : Nat) (μ : jM) (a : Nat) (i1 : Int32) (i2 : Int32) (i3 : Int32) (i4 : Int32) (u5 : Value) : jR (d + 1) 25 28 [.ref a, .int i1, .int i2, .int i3, .int i4, u5] [] μ = (jgR μ 12 0 (.ref a)).bind fun w1 => (if jrecv μ 3 w1 = true then (jC d 69 [w1, .int i1] μ).bind fun p2 => jR (d + 1) 25 36 [.ref a, .int i1, .int i2, .int i3, .int i4, u5] (p2.1.toList ++ []) p2.2 else none) :=
  (l_aload_n (show gPG 25 28 = some (.aload_n 0) by decide +kernel) rfl jr_ref).trans <|
  (l_gR (show gPG 25 29 = some (.getfield 14) by decide +kernel) (kd := 12) (sl := 0) (tc := 1) (fin := 1) (z := 0) (by decide +kernel) (by decide +kernel) (by decide +kernel)).trans <| bd_cg fun w1 hw1 =>
  (l_iload_n (show gPG 25 32 = some (.iload_n 1) by decide +kernel) rfl).trans <|
  l_callV (u := 1) (v := w1) (as := [.int i1]) (show gPG 25 33 = some (jinvI 1 104) by decide +kernel) (by decide) (cc := 69) (na := 2) (kd := 3) (q4 := 0) (z := 11) (rest := []) (by decide +kernel) (by decide +kernel)  rfl (show (2 : Nat) ≤ 2 by decide) rfl cs0 (by decide +kernel) (cai (cav (jr_gR hw1) ca0))
theorem b25_36 (d : Nat) (μ : jM) (a : Nat) (i1 : Int32) (i2 : Int32) (i3 : Int32) (i4 : Int32) (u5 : Value) (s0 : Value) (hs0 : jisref s0 = true) : jR (d + 1) 25 36 [.ref a, .int i1, .int i2, .int i3, .int i4, u5] [s0] μ = (if jrecv μ 6 s0 = true then (jC d 99 [s0, .int i2, .int i3] μ).bind fun p1 => jR (d + 1) 25 41 [.ref a, .int i1, .int i2, .int i3, .int i4, u5] (p1.1.toList ++ []) p1.2 else none) :=
  (l_iload_n (show gPG 25 36 = some (.iload_n 2) by decide +kernel) rfl).trans <|
  (l_iload_n (show gPG 25 37 = some (.iload_n 3) by decide +kernel) rfl).trans <|
  l_callV (u := 1) (v := s0) (as := [.int i2, .int i3]) (show gPG 25 38 = some (jinvI 1 163) by decide +kernel) (by decide) (cc := 99) (na := 3) (kd := 6) (q4 := 0) (z := 11) (rest := []) (by decide +kernel) (by decide +kernel)  rfl (show (3 : Nat) ≤ 3 by decide) rfl cs0 (by decide +kernel) (cai (cai (cav hs0 ca0)))
theorem b25_41 (d : Nat) (μ : jM) (a : Nat) (i1 : Int32) (i2 : Int32) (i3 : Int32) (i4 : Int32) (u5 : Value) (s0 : Int32) : jR (d + 1) 25 41 [.ref a, .int i1, .int i2, .int i3, .int i4, u5] [.int s0] μ = (jgR μ 12 0 (.ref a)).bind fun w1 => (if jrecv μ 3 w1 = true then (jC d 69 [w1, .int i1] μ).bind fun p2 => jR (d + 1) 25 51 [.ref a, .int i1, .int i2, .int i3, .int i4, .int s0] (p2.1.toList ++ []) p2.2 else none) :=
  (l_istore (show gPG 25 41 = some (.istore 5) by decide +kernel) (ls := [.ref a, .int i1, .int i2, .int i3, .int i4, u5]) (show (5 : Nat) < 6 by decide) (show _ = ([.ref a, .int i1, .int i2, .int i3, .int i4, .int s0] : List Value) from rfl)).trans <|
  (l_aload_n (show gPG 25 43 = some (.aload_n 0) by decide +kernel) rfl jr_ref).trans <|
  (l_gR (show gPG 25 44 = some (.getfield 14) by decide +kernel) (kd := 12) (sl := 0) (tc := 1) (fin := 1) (z := 0) (by decide +kernel) (by decide +kernel) (by decide +kernel)).trans <| bd_cg fun w1 hw1 =>
  (l_iload_n (show gPG 25 47 = some (.iload_n 1) by decide +kernel) rfl).trans <|
  l_callV (u := 1) (v := w1) (as := [.int i1]) (show gPG 25 48 = some (jinvI 1 104) by decide +kernel) (by decide) (cc := 69) (na := 2) (kd := 3) (q4 := 0) (z := 11) (rest := []) (by decide +kernel) (by decide +kernel)  rfl (show (2 : Nat) ≤ 2 by decide) rfl cs0 (by decide +kernel) (cai (cav (jr_gR hw1) ca0))
theorem b25_51 (d : Nat) (μ : jM) (u0 : Value) (u1 : Value) (i2 : Int32) (i3 : Int32) (i4 : Int32) (i5 : Int32) (s0 : Value) (hs0 : jisref s0 = true) : jR (d + 1) 25 51 [u0, u1, .int i2, .int i3, .int i4, .int i5] [s0] μ = (if jrecv μ 6 s0 = true then (jC d 94 [s0, .int i2, .int i3, .int i4] μ).bind fun p1 => jR (d + 1) 25 58 [u0, u1, .int i2, .int i3, .int i4, .int i5] (p1.1.toList ++ []) p1.2 else none) :=
  (l_iload_n (show gPG 25 51 = some (.iload_n 2) by decide +kernel) rfl).trans <|
  (l_iload_n (show gPG 25 52 = some (.iload_n 3) by decide +kernel) rfl).trans <|
  (l_iload (show gPG 25 53 = some (.iload 4) by decide +kernel) rfl).trans <|
  l_callV (u := 1) (v := s0) (as := [.int i2, .int i3, .int i4]) (show gPG 25 55 = some (jinvI 1 167) by decide +kernel) (by decide) (cc := 94) (na := 4) (kd := 6) (q4 := 0) (z := 11) (rest := []) (by decide +kernel) (by decide +kernel)  rfl (show (4 : Nat) ≤ 4 by decide) rfl cs0 (by decide +kernel) (cai (cai (cai (cav hs0 ca0))))
theorem b25_58 (d : Nat) (μ : jM) (u0 : Value) (u1 : Value) (u2 : Value) (u3 : Value) (u4 : Value) (i5 : Int32) : jR d 25 58 [u0, u1, u2, u3, u4, .int i5] [] μ = some (some (.int i5), μ) :=
  (l_iload (show gPG 25 58 = some (.iload 5) by decide +kernel) rfl).trans <|
  l_iret1 (show gPG 25 60 = some (.ireturn) by decide +kernel) (by decide +kernel)
-- Top.fill
theorem b26_0 (d : Nat) (μ : jM) (a : Nat) (i1 : Int32) (i2 : Int32) (i3 : Int32) (i4 : Int32) : jR (d + 1) 26 0 [.ref a, .int i1, .int i2, .int i3, .int i4] [] μ = (if jrecv μ 12 (.ref a) = true then (jC d 15 [.ref a, .int i1, .int i2, .int i3] μ).bind fun p1 => jR (d + 1) 26 7 [.ref a, .int i1, .int i2, .int i3, .int i4] (p1.1.toList ++ []) p1.2 else none) :=
  (l_aload_n (show gPG 26 0 = some (.aload_n 0) by decide +kernel) rfl jr_ref).trans <|
  (l_iload_n (show gPG 26 1 = some (.iload_n 1) by decide +kernel) rfl).trans <|
  (l_iload_n (show gPG 26 2 = some (.iload_n 2) by decide +kernel) rfl).trans <|
  (l_iload_n (show gPG 26 3 = some (.iload_n 3) by decide +kernel) rfl).trans <|
  l_callV (u := 1) (v := .ref a) (as := [.int i1, .int i2, .int i3]) (show gPG 26 4 = some (jinvI 1 101) by decide +kernel) (by decide) (cc := 15) (na := 4) (kd := 12) (q4 := 0) (z := 10) (rest := []) (by decide +kernel) (by decide +kernel)  rfl (show (4 : Nat) ≤ 4 by decide) rfl cs0 (by decide +kernel) (cai (cai (cai (cav jr_ref ca0))))
theorem b26_7 (d : Nat) (μ : jM) (a : Nat) (i1 : Int32) (i2 : Int32) (i3 : Int32) (i4 : Int32) (s0 : Int32) : jR (d + 1) 26 7 [.ref a, .int i1, .int i2, .int i3, .int i4] [.int s0] μ = (if s0 = 0 then jR (d + 1) 26 21 [.ref a, .int i1, .int i2, .int i3, .int i4] [] μ else (jC d 13 [.int i4, .int 1, .int 7] μ).bind fun p1 => jR (d + 1) 26 18 [.ref a, .int i1, .int i2, .int i3, .int i4] (p1.1.toList ++ []) p1.2) :=
  (l_cmp0 (show gPG 26 7 = some (.ifCond .eq 14) by decide +kernel) (t := 21) (by decide +kernel)).trans <| jm_eq.trans <| ite_cg (
  rfl) (
  (l_iload (show gPG 26 10 = some (.iload 4) by decide +kernel) rfl).trans <|
  (l_iconst (show gPG 26 12 = some (.iconst 1) by decide +kernel) (c := 1) (by decide +kernel)).trans <|
  (l_bipush (show gPG 26 13 = some (.bipush 7) by decide +kernel) (c := 7) (by decide +kernel)).trans <|
  l_callS (u := 2) (as := [.int i4, .int 1, .int 7]) (show gPG 26 15 = some (jinvI 2 85) by decide +kernel) (by decide) (cc := 13) (na := 3) (q4 := 0) (z := 12) (rest := []) (by decide +kernel) (by decide +kernel)  rfl (show (3 : Nat) ≤ 3 by decide) rfl cs0 (by decide +kernel) (cai (cai (cai ca0))) (fun e => absurd e (by decide)))
theorem b26_18 (d : Nat) (μ : jM) (a : Nat) (i1 : Int32) (i2 : Int32) (i3 : Int32) (i4 : Int32) (s0 : Int32) : jR (d + 1) 26 18 [.ref a, .int i1, .int i2, .int i3, .int i4] [.int s0] μ = (if s0 = 0 then jR (d + 1) 26 21 [.ref a, .int i1, .int i2, .int i3, .int i4] [] μ else (if jrecv μ 12 (.ref a) = true then (jC d 19 [.ref a] μ).bind fun p1 => jR (d + 1) 26 28 [.ref a, .int i1, .int i2, .int i3, .int i4] (p1.1.toList ++ []) p1.2 else none)) :=
  (l_cmp0 (show gPG 26 18 = some (.ifCond .ne 6) by decide +kernel) (t := 24) (by decide +kernel)).trans <| jm_ne.trans <| ite_cg (
  rfl) (
  (l_aload_n (show gPG 26 24 = some (.aload_n 0) by decide +kernel) rfl jr_ref).trans <|
  l_callV (u := 1) (v := .ref a) (as := []) (show gPG 26 25 = some (jinvI 1 119) by decide +kernel) (by decide) (cc := 19) (na := 1) (kd := 12) (q4 := 0) (z := 10) (rest := []) (by decide +kernel) (by decide +kernel)  rfl (show (1 : Nat) ≤ 1 by decide) rfl cs0 (by decide +kernel) (cav jr_ref ca0))
theorem b26_21 (d : Nat) (μ : jM) (u0 : Value) (u1 : Value) (u2 : Value) (u3 : Value) (u4 : Value) : jR d 26 21 [u0, u1, u2, u3, u4] [] μ = some (some (.int (-2)), μ) :=
  (l_bipush (show gPG 26 21 = some (.bipush (-2)) by decide +kernel) (c := (-2)) (by decide +kernel)).trans <|
  l_iret1 (show gPG 26 23 = some (.ireturn) by decide +kernel) (by decide +kernel)
theorem b26_28 (d : Nat) (μ : jM) (a : Nat) (i1 : Int32) (i2 : Int32) (i3 : Int32) (i4 : Int32) : jR (d + 1) 26 28 [.ref a, .int i1, .int i2, .int i3, .int i4] [] μ = (jgR μ 12 0 (.ref a)).bind fun w1 => (if jrecv μ 3 w1 = true then (jC d 69 [w1, .int i1] μ).bind fun p2 => jR (d + 1) 26 36 [.ref a, .int i1, .int i2, .int i3, .int i4] (p2.1.toList ++ []) p2.2 else none) :=
  (l_aload_n (show gPG 26 28 = some (.aload_n 0) by decide +kernel) rfl jr_ref).trans <|
  (l_gR (show gPG 26 29 = some (.getfield 14) by decide +kernel) (kd := 12) (sl := 0) (tc := 1) (fin := 1) (z := 0) (by decide +kernel) (by decide +kernel) (by decide +kernel)).trans <| bd_cg fun w1 hw1 =>
  (l_iload_n (show gPG 26 32 = some (.iload_n 1) by decide +kernel) rfl).trans <|
  l_callV (u := 1) (v := w1) (as := [.int i1]) (show gPG 26 33 = some (jinvI 1 104) by decide +kernel) (by decide) (cc := 69) (na := 2) (kd := 3) (q4 := 0) (z := 11) (rest := []) (by decide +kernel) (by decide +kernel)  rfl (show (2 : Nat) ≤ 2 by decide) rfl cs0 (by decide +kernel) (cai (cav (jr_gR hw1) ca0))
theorem b26_36 (d : Nat) (μ : jM) (u0 : Value) (u1 : Value) (i2 : Int32) (i3 : Int32) (i4 : Int32) (s0 : Value) (hs0 : jisref s0 = true) : jR (d + 1) 26 36 [u0, u1, .int i2, .int i3, .int i4] [s0] μ = (if jrecv μ 6 s0 = true then (jC d 100 [s0, .int i2, .int i3, .int i4] μ).bind fun p1 => jR (d + 1) 26 43 [u0, u1, .int i2, .int i3, .int i4] (p1.1.toList ++ []) p1.2 else none) :=
  (l_iload_n (show gPG 26 36 = some (.iload_n 2) by decide +kernel) rfl).trans <|
  (l_iload_n (show gPG 26 37 = some (.iload_n 3) by decide +kernel) rfl).trans <|
  (l_iload (show gPG 26 38 = some (.iload 4) by decide +kernel) rfl).trans <|
  l_callV (u := 1) (v := s0) (as := [.int i2, .int i3, .int i4]) (show gPG 26 40 = some (jinvI 1 171) by decide +kernel) (by decide) (cc := 100) (na := 4) (kd := 6) (q4 := 0) (z := 11) (rest := []) (by decide +kernel) (by decide +kernel)  rfl (show (4 : Nat) ≤ 4 by decide) rfl cs0 (by decide +kernel) (cai (cai (cai (cav hs0 ca0))))
theorem b26_43 (d : Nat) (μ : jM) (u0 : Value) (u1 : Value) (u2 : Value) (u3 : Value) (u4 : Value) (s0 : Int32) : jR d 26 43 [u0, u1, u2, u3, u4] [.int s0] μ = some (some (.int s0), μ) :=
  l_iret1 (show gPG 26 43 = some (.ireturn) by decide +kernel) (by decide +kernel)
-- Top.like
theorem b27_0 (d : Nat) (μ : jM) (a : Nat) (i1 : Int32) (i2 : Int32) : jR (d + 1) 27 0 [.ref a, .int i1, .int i2] [] μ = (jC d 16 [.int i1] μ).bind fun p1 => jR (d + 1) 27 4 [.ref a, .int i1, .int i2] (p1.1.toList ++ []) p1.2 :=
  (l_iload_n (show gPG 27 0 = some (.iload_n 1) by decide +kernel) rfl).trans <|
  l_callS (u := 2) (as := [.int i1]) (show gPG 27 1 = some (jinvI 2 136) by decide +kernel) (by decide) (cc := 16) (na := 1) (q4 := 0) (z := 12) (rest := []) (by decide +kernel) (by decide +kernel)  rfl (show (1 : Nat) ≤ 1 by decide) rfl cs0 (by decide +kernel) (cai ca0) (fun e => absurd e (by decide))
theorem b27_4 (d : Nat) (μ : jM) (a : Nat) (i1 : Int32) (i2 : Int32) (s0 : Int32) : jR (d + 1) 27 4 [.ref a, .int i1, .int i2] [.int s0] μ = (if s0 = 0 then jR (d + 1) 27 19 [.ref a, .int i1, .int i2] [] μ else (jC d 18 [.int i2] μ).bind fun p1 => jR (d + 1) 27 11 [.ref a, .int i1, .int i2] (p1.1.toList ++ []) p1.2) :=
  (l_cmp0 (show gPG 27 4 = some (.ifCond .eq 15) by decide +kernel) (t := 19) (by decide +kernel)).trans <| jm_eq.trans <| ite_cg (
  rfl) (
  (l_iload_n (show gPG 27 7 = some (.iload_n 2) by decide +kernel) rfl).trans <|
  l_callS (u := 2) (as := [.int i2]) (show gPG 27 8 = some (jinvI 2 175) by decide +kernel) (by decide) (cc := 18) (na := 1) (q4 := 0) (z := 12) (rest := []) (by decide +kernel) (by decide +kernel)  rfl (show (1 : Nat) ≤ 1 by decide) rfl cs0 (by decide +kernel) (cai ca0) (fun e => absurd e (by decide)))
theorem b27_11 (d : Nat) (μ : jM) (a : Nat) (i1 : Int32) (i2 : Int32) (s0 : Int32) : jR (d + 1) 27 11 [.ref a, .int i1, .int i2] [.int s0] μ = (if s0 = 0 then jR (d + 1) 27 19 [.ref a, .int i1, .int i2] [] μ else (if i1 = i2 then jR (d + 1) 27 19 [.ref a, .int i1, .int i2] [] μ else (if jrecv μ 12 (.ref a) = true then (jC d 19 [.ref a] μ).bind fun p1 => jR (d + 1) 27 26 [.ref a, .int i1, .int i2] (p1.1.toList ++ []) p1.2 else none))) :=
  (l_cmp0 (show gPG 27 11 = some (.ifCond .eq 8) by decide +kernel) (t := 19) (by decide +kernel)).trans <| jm_eq.trans <| ite_cg (
  rfl) (
  (l_iload_n (show gPG 27 14 = some (.iload_n 1) by decide +kernel) rfl).trans <|
  (l_iload_n (show gPG 27 15 = some (.iload_n 2) by decide +kernel) rfl).trans <|
  (l_cmp (show gPG 27 16 = some (.if_icmp .ne 6) by decide +kernel) (t := 22) (by decide +kernel)).trans <| jm_ne.trans <| ite_cg (
  rfl) (
  (l_aload_n (show gPG 27 22 = some (.aload_n 0) by decide +kernel) rfl jr_ref).trans <|
  l_callV (u := 1) (v := .ref a) (as := []) (show gPG 27 23 = some (jinvI 1 119) by decide +kernel) (by decide) (cc := 19) (na := 1) (kd := 12) (q4 := 0) (z := 10) (rest := []) (by decide +kernel) (by decide +kernel)  rfl (show (1 : Nat) ≤ 1 by decide) rfl cs0 (by decide +kernel) (cav jr_ref ca0)))
theorem b27_19 (d : Nat) (μ : jM) (u0 : Value) (u1 : Value) (u2 : Value) : jR d 27 19 [u0, u1, u2] [] μ = some (some (.int (-2)), μ) :=
  (l_bipush (show gPG 27 19 = some (.bipush (-2)) by decide +kernel) (c := (-2)) (by decide +kernel)).trans <|
  l_iret1 (show gPG 27 21 = some (.ireturn) by decide +kernel) (by decide +kernel)
theorem b27_26 (d : Nat) (μ : jM) (a : Nat) (i1 : Int32) (i2 : Int32) : jR (d + 1) 27 26 [.ref a, .int i1, .int i2] [] μ = (jgR μ 12 0 (.ref a)).bind fun w1 => (if jrecv μ 3 w1 = true then (jC d 69 [w1, .int i1] μ).bind fun p2 => jR (d + 1) 27 34 [.ref a, .int i1, .int i2] (p2.1.toList ++ []) p2.2 else none) :=
  (l_aload_n (show gPG 27 26 = some (.aload_n 0) by decide +kernel) rfl jr_ref).trans <|
  (l_gR (show gPG 27 27 = some (.getfield 14) by decide +kernel) (kd := 12) (sl := 0) (tc := 1) (fin := 1) (z := 0) (by decide +kernel) (by decide +kernel) (by decide +kernel)).trans <| bd_cg fun w1 hw1 =>
  (l_iload_n (show gPG 27 30 = some (.iload_n 1) by decide +kernel) rfl).trans <|
  l_callV (u := 1) (v := w1) (as := [.int i1]) (show gPG 27 31 = some (jinvI 1 104) by decide +kernel) (by decide) (cc := 69) (na := 2) (kd := 3) (q4 := 0) (z := 11) (rest := []) (by decide +kernel) (by decide +kernel)  rfl (show (2 : Nat) ≤ 2 by decide) rfl cs0 (by decide +kernel) (cai (cav (jr_gR hw1) ca0))
theorem b27_34 (d : Nat) (μ : jM) (a : Nat) (i1 : Int32) (i2 : Int32) (s0 : Value) (hs0 : jisref s0 = true) : jR (d + 1) 27 34 [.ref a, .int i1, .int i2] [s0] μ = (jgR μ 12 0 (.ref a)).bind fun w1 => (if jrecv μ 3 w1 = true then (jC d 69 [w1, .int i2] μ).bind fun p2 => jR (d + 1) 27 42 [.ref a, .int i1, .int i2] (p2.1.toList ++ [s0]) p2.2 else none) :=
  (l_aload_n (show gPG 27 34 = some (.aload_n 0) by decide +kernel) rfl jr_ref).trans <|
  (l_gR (show gPG 27 35 = some (.getfield 14) by decide +kernel) (kd := 12) (sl := 0) (tc := 1) (fin := 1) (z := 0) (by decide +kernel) (by decide +kernel) (by decide +kernel)).trans <| bd_cg fun w1 hw1 =>
  (l_iload_n (show gPG 27 38 = some (.iload_n 2) by decide +kernel) rfl).trans <|
  l_callV (u := 1) (v := w1) (as := [.int i2]) (show gPG 27 39 = some (jinvI 1 104) by decide +kernel) (by decide) (cc := 69) (na := 2) (kd := 3) (q4 := 0) (z := 11) (rest := [s0]) (by decide +kernel) (by decide +kernel)  rfl (show (2 : Nat) ≤ 3 by decide) rfl (csv hs0 cs0) (by decide +kernel) (cai (cav (jr_gR hw1) ca0))
theorem b27_42 (d : Nat) (μ : jM) (a : Nat) (i1 : Int32) (u2 : Value) (s0 : Value) (s1 : Value) (hs0 : jisref s0 = true) (hs1 : jisref s1 = true) : jR (d + 1) 27 42 [.ref a, .int i1, u2] [s1, s0] μ = (if jrecv μ 6 s0 = true then (jC d 90 [s0, s1] μ).bind fun p1 => jR (d + 1) 27 45 [.ref a, .int i1, u2] (p1.1.toList ++ []) p1.2 else none) :=
  l_callV (u := 1) (v := s0) (as := [s1]) (show gPG 27 42 = some (jinvI 1 178) by decide +kernel) (by decide) (cc := 90) (na := 2) (kd := 6) (q4 := 0) (z := 11) (rest := []) (by decide +kernel) (by decide +kernel)  rfl (show (2 : Nat) ≤ 2 by decide) rfl cs0 (by decide +kernel) (cav hs1 (cav hs0 ca0))
theorem b27_45 (d : Nat) (μ : jM) (a : Nat) (i1 : Int32) (u2 : Value) : jR (d + 1) 27 45 [.ref a, .int i1, u2] [] μ = (jgR μ 12 0 (.ref a)).bind fun w1 => (if jrecv μ 3 w1 = true then (jC d 69 [w1, .int i1] μ).bind fun p2 => jR (d + 1) 27 53 [.ref a, .int i1, u2] (p2.1.toList ++ []) p2.2 else none) :=
  (l_aload_n (show gPG 27 45 = some (.aload_n 0) by decide +kernel) rfl jr_ref).trans <|
  (l_gR (show gPG 27 46 = some (.getfield 14) by decide +kernel) (kd := 12) (sl := 0) (tc := 1) (fin := 1) (z := 0) (by decide +kernel) (by decide +kernel) (by decide +kernel)).trans <| bd_cg fun w1 hw1 =>
  (l_iload_n (show gPG 27 49 = some (.iload_n 1) by decide +kernel) rfl).trans <|
  l_callV (u := 1) (v := w1) (as := [.int i1]) (show gPG 27 50 = some (jinvI 1 104) by decide +kernel) (by decide) (cc := 69) (na := 2) (kd := 3) (q4 := 0) (z := 11) (rest := []) (by decide +kernel) (by decide +kernel)  rfl (show (2 : Nat) ≤ 2 by decide) rfl cs0 (by decide +kernel) (cai (cav (jr_gR hw1) ca0))
theorem b27_53 (d : Nat) (μ : jM) (u0 : Value) (u1 : Value) (u2 : Value) (s0 : Value) (hs0 : jisref s0 = true) : jR d 27 53 [u0, u1, u2] [s0] μ = (jgI μ 6 0 s0).bind fun x1 => some (some (.int x1), μ) :=
  (l_gI (show gPG 27 53 = some (.getfield 139) by decide +kernel) (kd := 6) (sl := 0) (tc := 0) (fin := 0) (z := 1) (by decide +kernel) (by decide +kernel) (by decide +kernel)).trans <| bd_cg fun x1 hx1 =>
  l_iret1 (show gPG 27 56 = some (.ireturn) by decide +kernel) (by decide +kernel)
-- Top.told
theorem b28_0 (d : Nat) (μ : jM) (a : Nat) (i1 : Int32) (i2 : Int32) (i3 : Int32) (i4 : Int32) : jR (d + 1) 28 0 [.ref a, .int i1, .int i2, .int i3, .int i4, .retAddr 0] [] μ = (if jrecv μ 12 (.ref a) = true then (jC d 17 [.ref a, .int i1, .int i2, .int i3] μ).bind fun p1 => jR (d + 1) 28 7 [.ref a, .int i1, .int i2, .int i3, .int i4, .retAddr 0] (p1.1.toList ++ []) p1.2 else none) :=
  (l_aload_n (show gPG 28 0 = some (.aload_n 0) by decide +kernel) rfl jr_ref).trans <|
  (l_iload_n (show gPG 28 1 = some (.iload_n 1) by decide +kernel) rfl).trans <|
  (l_iload_n (show gPG 28 2 = some (.iload_n 2) by decide +kernel) rfl).trans <|
  (l_iload_n (show gPG 28 3 = some (.iload_n 3) by decide +kernel) rfl).trans <|
  l_callV (u := 1) (v := .ref a) (as := [.int i1, .int i2, .int i3]) (show gPG 28 4 = some (jinvI 1 182) by decide +kernel) (by decide) (cc := 17) (na := 4) (kd := 12) (q4 := 0) (z := 10) (rest := []) (by decide +kernel) (by decide +kernel)  rfl (show (4 : Nat) ≤ 4 by decide) rfl cs0 (by decide +kernel) (cai (cai (cai (cav jr_ref ca0))))
theorem b28_7 (d : Nat) (μ : jM) (a : Nat) (i1 : Int32) (i2 : Int32) (i3 : Int32) (i4 : Int32) (u5 : Value) (s0 : Int32) : jR (d + 1) 28 7 [.ref a, .int i1, .int i2, .int i3, .int i4, u5] [.int s0] μ = (if s0 = 0 then some (some (.int (-2)), μ) else (jgR μ 12 0 (.ref a)).bind fun w1 => (if jrecv μ 3 w1 = true then (jC d 69 [w1, .int i1] μ).bind fun p2 => jR (d + 1) 28 21 [.ref a, .int i1, .int i2, .int i3, .int i4, u5] (p2.1.toList ++ []) p2.2 else none)) :=
  (l_cmp0 (show gPG 28 7 = some (.ifCond .ne 6) by decide +kernel) (t := 13) (by decide +kernel)).trans <| jm_ne.trans <| ite_cg (
  (l_bipush (show gPG 28 10 = some (.bipush (-2)) by decide +kernel) (c := (-2)) (by decide +kernel)).trans <|
  l_iret1 (show gPG 28 12 = some (.ireturn) by decide +kernel) (by decide +kernel)) (
  (l_aload_n (show gPG 28 13 = some (.aload_n 0) by decide +kernel) rfl jr_ref).trans <|
  (l_gR (show gPG 28 14 = some (.getfield 14) by decide +kernel) (kd := 12) (sl := 0) (tc := 1) (fin := 1) (z := 0) (by decide +kernel) (by decide +kernel) (by decide +kernel)).trans <| bd_cg fun w1 hw1 =>
  (l_iload_n (show gPG 28 17 = some (.iload_n 1) by decide +kernel) rfl).trans <|
  l_callV (u := 1) (v := w1) (as := [.int i1]) (show gPG 28 18 = some (jinvI 1 104) by decide +kernel) (by decide) (cc := 69) (na := 2) (kd := 3) (q4 := 0) (z := 11) (rest := []) (by decide +kernel) (by decide +kernel)  rfl (show (2 : Nat) ≤ 2 by decide) rfl cs0 (by decide +kernel) (cai (cav (jr_gR hw1) ca0)))
theorem sw28_25 (x : Int32) : ((jsw (.tableswitch 74 0 3 #[31, 39, 47, 54]) x).bind fun o => jtgt 25 o) = if x = 0 then some 56 else if x = 1 then some 64 else if x = 2 then some 72 else if x = 3 then some 79 else some 99 := by
  by_cases h0 : x = 0
  · subst h0; decide +kernel
  by_cases h1 : x = 1
  · subst h1; decide +kernel
  by_cases h2 : x = 2
  · subst h2; decide +kernel
  by_cases h3 : x = 3
  · subst h3; decide +kernel
  have g0 : x.toInt ≠ 0 := fun e => h0 (Int32.toInt_inj.mp (e.trans (by decide +kernel)))
  have g1 : x.toInt ≠ 1 := fun e => h1 (Int32.toInt_inj.mp (e.trans (by decide +kernel)))
  have g2 : x.toInt ≠ 2 := fun e => h2 (Int32.toInt_inj.mp (e.trans (by decide +kernel)))
  have g3 : x.toInt ≠ 3 := fun e => h3 (Int32.toInt_inj.mp (e.trans (by decide +kernel)))
  have e : jsw (.tableswitch 74 0 3 #[31, 39, 47, 54]) x = some 74 := by
    show (if x.toInt < 0 ∨ 3 < x.toInt then _ else _) = _
    rw [if_pos (by omega)]
  rw [e]
  simp only [Option.bind_some, h0, if_false, h1, if_false, h2, if_false, h3, if_false]
  decide +kernel
theorem b28_21 (d : Nat) (μ : jM) (a : Nat) (u1 : Value) (i2 : Int32) (i3 : Int32) (i4 : Int32) (u5 : Value) (s0 : Value) (hs0 : jisref s0 = true) : jR (d + 1) 28 21 [.ref a, u1, .int i2, .int i3, .int i4, u5] [s0] μ = (if i4 = 0 then (if jrecv μ 6 s0 = true then (jC d 101 [s0, .int i2, .int i3] μ).bind fun p1 => jR (d + 1) 28 63 [.ref a, u1, .int i2, .int i3, .int i4, s0] (p1.1.toList ++ []) p1.2 else none) else (if i4 = 1 then (if jrecv μ 6 s0 = true then (jC d 99 [s0, .int i2, .int i3] μ).bind fun p2 => jR (d + 1) 28 71 [.ref a, u1, .int i2, .int i3, .int i4, s0] (p2.1.toList ++ []) p2.2 else none) else (if i4 = 2 then (if jrecv μ 6 s0 = true then (jC d 89 [s0, .int i2] μ).bind fun p3 => jR (d + 1) 28 78 [.ref a, u1, .int i2, .int i3, .int i4, s0] (p3.1.toList ++ []) p3.2 else none) else (if i4 = 3 then (jgR μ 12 5 (.ref a)).bind fun w4 => (if jrecv μ 2 w4 = true then (jC d 59 [w4, s0, .int i2, .int i3] μ).bind fun p5 => jR (d + 1) 28 90 [.ref a, u1, .int i2, .int i3, .int i4, s0] (p5.1.toList ++ []) p5.2 else none) else some (some (.int (-2)), μ))))) :=
  (l_astore (show gPG 28 21 = some (.astore 5) by decide +kernel) (ls := [.ref a, u1, .int i2, .int i3, .int i4, u5]) hs0 (show (5 : Nat) < 6 by decide) (show _ = ([.ref a, u1, .int i2, .int i3, .int i4, s0] : List Value) from rfl)).trans <|
  (l_iload (show gPG 28 23 = some (.iload 4) by decide +kernel) rfl).trans <|
  (l_tsw (show gPG 28 25 = some (.tableswitch 74 0 3 #[31, 39, 47, 54]) by decide +kernel) sw28_25).trans <| ite_bd (
  (l_aload (show gPG 28 56 = some (.aload 5) by decide +kernel) rfl hs0).trans <|
  (l_iload_n (show gPG 28 58 = some (.iload_n 2) by decide +kernel) rfl).trans <|
  (l_iload_n (show gPG 28 59 = some (.iload_n 3) by decide +kernel) rfl).trans <|
  l_callV (u := 1) (v := s0) (as := [.int i2, .int i3]) (show gPG 28 60 = some (jinvI 1 185) by decide +kernel) (by decide) (cc := 101) (na := 3) (kd := 6) (q4 := 0) (z := 11) (rest := []) (by decide +kernel) (by decide +kernel)  rfl (show (3 : Nat) ≤ 3 by decide) rfl cs0 (by decide +kernel) (cai (cai (cav hs0 ca0)))) (
  ite_bd (
  (l_aload (show gPG 28 64 = some (.aload 5) by decide +kernel) rfl hs0).trans <|
  (l_iload_n (show gPG 28 66 = some (.iload_n 2) by decide +kernel) rfl).trans <|
  (l_iload_n (show gPG 28 67 = some (.iload_n 3) by decide +kernel) rfl).trans <|
  l_callV (u := 1) (v := s0) (as := [.int i2, .int i3]) (show gPG 28 68 = some (jinvI 1 163) by decide +kernel) (by decide) (cc := 99) (na := 3) (kd := 6) (q4 := 0) (z := 11) (rest := []) (by decide +kernel) (by decide +kernel)  rfl (show (3 : Nat) ≤ 3 by decide) rfl cs0 (by decide +kernel) (cai (cai (cav hs0 ca0)))) (
  ite_bd (
  (l_aload (show gPG 28 72 = some (.aload 5) by decide +kernel) rfl hs0).trans <|
  (l_iload_n (show gPG 28 74 = some (.iload_n 2) by decide +kernel) rfl).trans <|
  l_callV (u := 1) (v := s0) (as := [.int i2]) (show gPG 28 75 = some (jinvI 1 154) by decide +kernel) (by decide) (cc := 89) (na := 2) (kd := 6) (q4 := 0) (z := 11) (rest := []) (by decide +kernel) (by decide +kernel)  rfl (show (2 : Nat) ≤ 2 by decide) rfl cs0 (by decide +kernel) (cai (cav hs0 ca0))) (
  ite_bd (
  (l_aload_n (show gPG 28 79 = some (.aload_n 0) by decide +kernel) rfl jr_ref).trans <|
  (l_gR (show gPG 28 80 = some (.getfield 40) by decide +kernel) (kd := 12) (sl := 5) (tc := 1) (fin := 1) (z := 0) (by decide +kernel) (by decide +kernel) (by decide +kernel)).trans <| bd_cg fun w4 hw4 =>
  (l_aload (show gPG 28 83 = some (.aload 5) by decide +kernel) rfl hs0).trans <|
  (l_iload_n (show gPG 28 85 = some (.iload_n 2) by decide +kernel) rfl).trans <|
  (l_iload_n (show gPG 28 86 = some (.iload_n 3) by decide +kernel) rfl).trans <|
  l_callV (u := 1) (v := w4) (as := [s0, .int i2, .int i3]) (show gPG 28 87 = some (jinvI 1 188) by decide +kernel) (by decide) (cc := 59) (na := 4) (kd := 2) (q4 := 0) (z := 11) (rest := []) (by decide +kernel) (by decide +kernel)  rfl (show (4 : Nat) ≤ 4 by decide) rfl cs0 (by decide +kernel) (cai (cai (cav hs0 (cav (jr_gR hw4) ca0))))) (
  sm_bd (
  (l_bipush (show gPG 28 99 = some (.bipush (-2)) by decide +kernel) (c := (-2)) (by decide +kernel)).trans <|
  l_iret1 (show gPG 28 101 = some (.ireturn) by decide +kernel) (by decide +kernel))))))
theorem b28_63 (d : Nat) (μ : jM) (u0 : Value) (u1 : Value) (u2 : Value) (u3 : Value) (u4 : Value) (u5 : Value) (s0 : Int32) : jR d 28 63 [u0, u1, u2, u3, u4, u5] [.int s0] μ = some (some (.int s0), μ) :=
  l_iret1 (show gPG 28 63 = some (.ireturn) by decide +kernel) (by decide +kernel)
theorem b28_71 (d : Nat) (μ : jM) (u0 : Value) (u1 : Value) (u2 : Value) (u3 : Value) (u4 : Value) (u5 : Value) (s0 : Int32) : jR d 28 71 [u0, u1, u2, u3, u4, u5] [.int s0] μ = some (some (.int s0), μ) :=
  l_iret1 (show gPG 28 71 = some (.ireturn) by decide +kernel) (by decide +kernel)
theorem b28_78 (d : Nat) (μ : jM) (u0 : Value) (u1 : Value) (u2 : Value) (u3 : Value) (u4 : Value) (u5 : Value) (s0 : Int32) : jR d 28 78 [u0, u1, u2, u3, u4, u5] [.int s0] μ = some (some (.int s0), μ) :=
  l_iret1 (show gPG 28 78 = some (.ireturn) by decide +kernel) (by decide +kernel)
theorem b28_90 (d : Nat) (μ : jM) (a : Nat) (u1 : Value) (u2 : Value) (u3 : Value) (u4 : Value) (u5 : Value) (s0 : Int32) : jR d 28 90 [.ref a, u1, u2, u3, u4, u5] [.int s0] μ = (jgR μ 12 5 (.ref a)).bind fun w1 => (jgI μ 2 1 w1).bind fun x2 => some (some (.int x2), μ) :=
  (l_pop (show gPG 28 90 = some (.pop) by decide +kernel) rfl).trans <|
  (l_aload_n (show gPG 28 91 = some (.aload_n 0) by decide +kernel) rfl jr_ref).trans <|
  (l_gR (show gPG 28 92 = some (.getfield 40) by decide +kernel) (kd := 12) (sl := 5) (tc := 1) (fin := 1) (z := 0) (by decide +kernel) (by decide +kernel) (by decide +kernel)).trans <| bd_cg fun w1 hw1 =>
  (l_gI (show gPG 28 95 = some (.getfield 192) by decide +kernel) (kd := 2) (sl := 1) (tc := 0) (fin := 0) (z := 1) (by decide +kernel) (by decide +kernel) (by decide +kernel)).trans <| bd_cg fun x2 hx2 =>
  l_iret1 (show gPG 28 98 = some (.ireturn) by decide +kernel) (by decide +kernel)
-- Top.value
theorem b29_0 (d : Nat) (μ : jM) (a : Nat) (i1 : Int32) (i2 : Int32) (i3 : Int32) : jR (d + 1) 29 0 [.ref a, .int i1, .int i2, .int i3, .retAddr 0] [] μ = (if jrecv μ 12 (.ref a) = true then (jC d 17 [.ref a, .int i1, .int i2, .int i3] μ).bind fun p1 => jR (d + 1) 29 7 [.ref a, .int i1, .int i2, .int i3, .retAddr 0] (p1.1.toList ++ []) p1.2 else none) :=
  (l_aload_n (show gPG 29 0 = some (.aload_n 0) by decide +kernel) rfl jr_ref).trans <|
  (l_iload_n (show gPG 29 1 = some (.iload_n 1) by decide +kernel) rfl).trans <|
  (l_iload_n (show gPG 29 2 = some (.iload_n 2) by decide +kernel) rfl).trans <|
  (l_iload_n (show gPG 29 3 = some (.iload_n 3) by decide +kernel) rfl).trans <|
  l_callV (u := 1) (v := .ref a) (as := [.int i1, .int i2, .int i3]) (show gPG 29 4 = some (jinvI 1 182) by decide +kernel) (by decide) (cc := 17) (na := 4) (kd := 12) (q4 := 0) (z := 10) (rest := []) (by decide +kernel) (by decide +kernel)  rfl (show (4 : Nat) ≤ 4 by decide) rfl cs0 (by decide +kernel) (cai (cai (cai (cav jr_ref ca0))))
theorem b29_7 (d : Nat) (μ : jM) (a : Nat) (i1 : Int32) (i2 : Int32) (i3 : Int32) (u4 : Value) (s0 : Int32) : jR (d + 1) 29 7 [.ref a, .int i1, .int i2, .int i3, u4] [.int s0] μ = (if s0 = 0 then some (some (.long (-9223372036854775808)), μ) else (jgR μ 12 5 (.ref a)).bind fun w1 => (jgR μ 12 0 (.ref a)).bind fun w2 => (if jrecv μ 3 w2 = true then (jC d 69 [w2, .int i1] μ).bind fun p3 => jR (d + 1) 29 26 [.ref a, .int i1, .int i2, .int i3, u4] (p3.1.toList ++ [w1]) p3.2 else none)) :=
  (l_cmp0 (show gPG 29 7 = some (.ifCond .ne 7) by decide +kernel) (t := 14) (by decide +kernel)).trans <| jm_ne.trans <| ite_cg (
  (l_ldc2 (show gPG 29 10 = some (.ldc2_w 195) by decide +kernel) (q := (-9223372036854775808)) (by decide +kernel)).trans <|
  l_lret (show gPG 29 13 = some (.lreturn) by decide +kernel) (by decide +kernel)) (
  (l_aload_n (show gPG 29 14 = some (.aload_n 0) by decide +kernel) rfl jr_ref).trans <|
  (l_gR (show gPG 29 15 = some (.getfield 40) by decide +kernel) (kd := 12) (sl := 5) (tc := 1) (fin := 1) (z := 0) (by decide +kernel) (by decide +kernel) (by decide +kernel)).trans <| bd_cg fun w1 hw1 =>
  (l_aload_n (show gPG 29 18 = some (.aload_n 0) by decide +kernel) rfl jr_ref).trans <|
  (l_gR (show gPG 29 19 = some (.getfield 14) by decide +kernel) (kd := 12) (sl := 0) (tc := 1) (fin := 1) (z := 0) (by decide +kernel) (by decide +kernel) (by decide +kernel)).trans <| bd_cg fun w2 hw2 =>
  (l_iload_n (show gPG 29 22 = some (.iload_n 1) by decide +kernel) rfl).trans <|
  l_callV (u := 1) (v := w2) (as := [.int i1]) (show gPG 29 23 = some (jinvI 1 104) by decide +kernel) (by decide) (cc := 69) (na := 2) (kd := 3) (q4 := 0) (z := 11) (rest := [w1]) (by decide +kernel) (by decide +kernel)  rfl (show (2 : Nat) ≤ 3 by decide) rfl (csv (jr_gR hw1) cs0) (by decide +kernel) (cai (cav (jr_gR hw2) ca0)))
theorem b29_26 (d : Nat) (μ : jM) (a : Nat) (u1 : Value) (i2 : Int32) (i3 : Int32) (u4 : Value) (s0 : Value) (s1 : Value) (hs0 : jisref s0 = true) (hs1 : jisref s1 = true) : jR (d + 1) 29 26 [.ref a, u1, .int i2, .int i3, u4] [s1, s0] μ = (if jrecv μ 2 s0 = true then (jC d 59 [s0, s1, .int i2, .int i3] μ).bind fun p1 => jR (d + 1) 29 31 [.ref a, u1, .int i2, .int i3, u4] (p1.1.toList ++ []) p1.2 else none) :=
  (l_iload_n (show gPG 29 26 = some (.iload_n 2) by decide +kernel) rfl).trans <|
  (l_iload_n (show gPG 29 27 = some (.iload_n 3) by decide +kernel) rfl).trans <|
  l_callV (u := 1) (v := s0) (as := [s1, .int i2, .int i3]) (show gPG 29 28 = some (jinvI 1 188) by decide +kernel) (by decide) (cc := 59) (na := 4) (kd := 2) (q4 := 0) (z := 11) (rest := []) (by decide +kernel) (by decide +kernel)  rfl (show (4 : Nat) ≤ 4 by decide) rfl cs0 (by decide +kernel) (cai (cai (cav hs1 (cav hs0 ca0))))
theorem b29_31 (d : Nat) (μ : jM) (a : Nat) (u1 : Value) (u2 : Value) (u3 : Value) (u4 : Value) (s0 : Int32) : jR d 29 31 [.ref a, u1, u2, u3, u4] [.int s0] μ = (jgR μ 12 5 (.ref a)).bind fun w1 => (jgI μ 2 1 w1).bind fun x2 => (if x2 = 0 then jR d 29 52 [.ref a, u1, u2, u3, .int s0] [.long (Int32.toInt64 s0)] μ else jR d 29 52 [.ref a, u1, u2, u3, .int s0] [.long (-9223372036854775808)] μ) :=
  (l_istore (show gPG 29 31 = some (.istore 4) by decide +kernel) (ls := [.ref a, u1, u2, u3, u4]) (show (4 : Nat) < 5 by decide) (show _ = ([.ref a, u1, u2, u3, .int s0] : List Value) from rfl)).trans <|
  (l_aload_n (show gPG 29 33 = some (.aload_n 0) by decide +kernel) rfl jr_ref).trans <|
  (l_gR (show gPG 29 34 = some (.getfield 40) by decide +kernel) (kd := 12) (sl := 5) (tc := 1) (fin := 1) (z := 0) (by decide +kernel) (by decide +kernel) (by decide +kernel)).trans <| bd_cg fun w1 hw1 =>
  (l_gI (show gPG 29 37 = some (.getfield 192) by decide +kernel) (kd := 2) (sl := 1) (tc := 0) (fin := 0) (z := 1) (by decide +kernel) (by decide +kernel) (by decide +kernel)).trans <| bd_cg fun x2 hx2 =>
  (l_cmp0 (show gPG 29 40 = some (.ifCond .ne 9) by decide +kernel) (t := 49) (by decide +kernel)).trans <| jm_ne.trans <| ite_cg (
  (l_iload (show gPG 29 43 = some (.iload 4) by decide +kernel) rfl).trans <|
  (l_i2l (show gPG 29 45 = some (.i2l) by decide +kernel) ).trans <|
  l_goto (show gPG 29 46 = some (.goto 6) by decide +kernel) (t := 52) (by decide +kernel)) (
  l_ldc2 (show gPG 29 49 = some (.ldc2_w 195) by decide +kernel) (q := (-9223372036854775808)) (by decide +kernel))
theorem b29_52 (d : Nat) (μ : jM) (u0 : Value) (u1 : Value) (u2 : Value) (u3 : Value) (u4 : Value) (s0 : Int64) : jR d 29 52 [u0, u1, u2, u3, u4] [.long s0] μ = some (some (.long s0), μ) :=
  l_lret (show gPG 29 52 = some (.lreturn) by decide +kernel) (by decide +kernel)
-- Top.print
theorem b30_0 (d : Nat) (μ : jM) (a : Nat) (i1 : Int32) (i2 : Int32) (i3 : Int32) (i4 : Int32) : jR (d + 1) 30 0 [.ref a, .int i1, .int i2, .int i3, .int i4, .retAddr 0] [] μ = (if jrecv μ 12 (.ref a) = true then (jC d 17 [.ref a, .int i1, .int i2, .int i3] μ).bind fun p1 => jR (d + 1) 30 7 [.ref a, .int i1, .int i2, .int i3, .int i4, .retAddr 0] (p1.1.toList ++ []) p1.2 else none) :=
  (l_aload_n (show gPG 30 0 = some (.aload_n 0) by decide +kernel) rfl jr_ref).trans <|
  (l_iload_n (show gPG 30 1 = some (.iload_n 1) by decide +kernel) rfl).trans <|
  (l_iload_n (show gPG 30 2 = some (.iload_n 2) by decide +kernel) rfl).trans <|
  (l_iload_n (show gPG 30 3 = some (.iload_n 3) by decide +kernel) rfl).trans <|
  l_callV (u := 1) (v := .ref a) (as := [.int i1, .int i2, .int i3]) (show gPG 30 4 = some (jinvI 1 182) by decide +kernel) (by decide) (cc := 17) (na := 4) (kd := 12) (q4 := 0) (z := 10) (rest := []) (by decide +kernel) (by decide +kernel)  rfl (show (4 : Nat) ≤ 4 by decide) rfl cs0 (by decide +kernel) (cai (cai (cai (cav jr_ref ca0))))
theorem b30_7 (d : Nat) (μ : jM) (a : Nat) (i1 : Int32) (i2 : Int32) (i3 : Int32) (i4 : Int32) (u5 : Value) (s0 : Int32) : jR (d + 1) 30 7 [.ref a, .int i1, .int i2, .int i3, .int i4, u5] [.int s0] μ = (if s0 = 0 then some (some (.int (-2)), μ) else (jC d 291 [(.ref (jsz μ))] ((jnew μ 1 0 4))).bind fun p1 => jR (d + 1) 30 20 [.ref a, .int i1, .int i2, .int i3, .int i4, u5] (p1.1.toList ++ [(.ref (jsz μ))]) p1.2) :=
  (l_cmp0 (show gPG 30 7 = some (.ifCond .ne 6) by decide +kernel) (t := 13) (by decide +kernel)).trans <| jm_ne.trans <| ite_cg (
  (l_bipush (show gPG 30 10 = some (.bipush (-2)) by decide +kernel) (c := (-2)) (by decide +kernel)).trans <|
  l_iret1 (show gPG 30 12 = some (.ireturn) by decide +kernel) (by decide +kernel)) (
  (l_new (show gPG 30 13 = some (.new 197) by decide +kernel) (kd := 1) (wd := 4) (q3 := 0) (q4 := 0) (by decide +kernel)).trans <|
  (l_dup (show gPG 30 16 = some (.dup) by decide +kernel) (jr_cat1 jr_ref)).trans <|
  l_callS (u := 3) (as := [(.ref (jsz μ))]) (show gPG 30 17 = some (jinvI 3 199) by decide +kernel) (by decide) (cc := 291) (na := 1) (q4 := 0) (z := 14) (rest := [(.ref (jsz μ))]) (by decide +kernel) (by decide +kernel)  rfl (show (1 : Nat) ≤ 2 by decide) rfl (csv jr_ref cs0) (by decide +kernel) (cav jr_ref ca0) (fun _ => ⟨_, _, rfl⟩))
theorem b30_20 (d : Nat) (μ : jM) (a : Nat) (i1 : Int32) (i2 : Int32) (i3 : Int32) (i4 : Int32) (u5 : Value) (s0 : Nat) : jR (d + 1) 30 20 [.ref a, .int i1, .int i2, .int i3, .int i4, u5] [(.ref s0)] μ = (jgR μ 12 0 (.ref a)).bind fun w1 => (if jrecv μ 3 w1 = true then (jC d 69 [w1, .int i1] μ).bind fun p2 => jR (d + 1) 30 30 [.ref a, .int i1, .int i2, .int i3, .int i4, (.ref s0)] (p2.1.toList ++ []) p2.2 else none) :=
  (l_astore (show gPG 30 20 = some (.astore 5) by decide +kernel) (ls := [.ref a, .int i1, .int i2, .int i3, .int i4, u5]) jr_ref (show (5 : Nat) < 6 by decide) (show _ = ([.ref a, .int i1, .int i2, .int i3, .int i4, (.ref s0)] : List Value) from rfl)).trans <|
  (l_aload_n (show gPG 30 22 = some (.aload_n 0) by decide +kernel) rfl jr_ref).trans <|
  (l_gR (show gPG 30 23 = some (.getfield 14) by decide +kernel) (kd := 12) (sl := 0) (tc := 1) (fin := 1) (z := 0) (by decide +kernel) (by decide +kernel) (by decide +kernel)).trans <| bd_cg fun w1 hw1 =>
  (l_iload_n (show gPG 30 26 = some (.iload_n 1) by decide +kernel) rfl).trans <|
  l_callV (u := 1) (v := w1) (as := [.int i1]) (show gPG 30 27 = some (jinvI 1 104) by decide +kernel) (by decide) (cc := 69) (na := 2) (kd := 3) (q4 := 0) (z := 11) (rest := []) (by decide +kernel) (by decide +kernel)  rfl (show (2 : Nat) ≤ 2 by decide) rfl cs0 (by decide +kernel) (cai (cav (jr_gR hw1) ca0))
theorem b30_30 (d : Nat) (μ : jM) (u0 : Value) (u1 : Value) (i2 : Int32) (i3 : Int32) (i4 : Int32) (a5 : Nat) (s0 : Value) (hs0 : jisref s0 = true) : jR (d + 1) 30 30 [u0, u1, .int i2, .int i3, .int i4, (.ref a5)] [s0] μ = (if jrecv μ 6 s0 = true then (jC d 105 [s0, .int i2, .int i3, (.ref a5)] μ).bind fun p1 => jR (d + 1) 30 37 [u0, u1, .int i2, .int i3, .int i4, (.ref a5)] (p1.1.toList ++ []) p1.2 else none) :=
  (l_iload_n (show gPG 30 30 = some (.iload_n 2) by decide +kernel) rfl).trans <|
  (l_iload_n (show gPG 30 31 = some (.iload_n 3) by decide +kernel) rfl).trans <|
  (l_aload (show gPG 30 32 = some (.aload 5) by decide +kernel) rfl jr_ref).trans <|
  l_callV (u := 1) (v := s0) (as := [.int i2, .int i3, (.ref a5)]) (show gPG 30 34 = some (jinvI 1 200) by decide +kernel) (by decide) (cc := 105) (na := 4) (kd := 6) (q4 := 0) (z := 11) (rest := []) (by decide +kernel) (by decide +kernel)  rfl (show (4 : Nat) ≤ 4 by decide) rfl cs0 (by decide +kernel) (cav jr_ref (cai (cai (cav hs0 ca0))))
theorem b30_37 (d : Nat) (μ : jM) (u0 : Value) (u1 : Value) (u2 : Value) (u3 : Value) (i4 : Int32) (a5 : Nat) : jR (d + 1) 30 37 [u0, u1, u2, u3, .int i4, (.ref a5)] [] μ = (if i4 = (-1) then (if jrecv μ 1 ((.ref a5)) = true then (jC d 295 [(.ref a5)] μ).bind fun p2 => jR (d + 1) 30 48 [u0, u1, u2, u3, .int i4, (.ref a5)] (p2.1.toList ++ []) p2.2 else none) else (if i4 < 0 then jR (d + 1) 30 74 [u0, u1, u2, u3, .int i4, (.ref a5)] [] μ else (if jrecv μ 1 ((.ref a5)) = true then (jC d 295 [(.ref a5)] μ).bind fun p1 => jR (d + 1) 30 61 [u0, u1, u2, u3, .int i4, (.ref a5)] (p1.1.toList ++ [.int i4]) p1.2 else none))) :=
  (l_iload (show gPG 30 37 = some (.iload 4) by decide +kernel) rfl).trans <|
  (l_iconst (show gPG 30 39 = some (.iconst (-1)) by decide +kernel) (c := (-1)) (by decide +kernel)).trans <|
  (l_cmp (show gPG 30 40 = some (.if_icmp .ne 9) by decide +kernel) (t := 49) (by decide +kernel)).trans <| jm_ne.trans <| ite_cg (
  (l_aload (show gPG 30 43 = some (.aload 5) by decide +kernel) rfl jr_ref).trans <|
  l_callV (u := 1) (v := (.ref a5)) (as := []) (show gPG 30 45 = some (jinvI 1 204) by decide +kernel) (by decide) (cc := 295) (na := 1) (kd := 1) (q4 := 0) (z := 10) (rest := []) (by decide +kernel) (by decide +kernel)  rfl (show (1 : Nat) ≤ 1 by decide) rfl cs0 (by decide +kernel) (cav jr_ref ca0)) (
  (l_iload (show gPG 30 49 = some (.iload 4) by decide +kernel) rfl).trans <|
  (l_cmp0 (show gPG 30 51 = some (.ifCond .lt 23) by decide +kernel) (t := 74) (by decide +kernel)).trans <| jm_lt.trans <| ite_cg (
  rfl) (
  (l_iload (show gPG 30 54 = some (.iload 4) by decide +kernel) rfl).trans <|
  (l_aload (show gPG 30 56 = some (.aload 5) by decide +kernel) rfl jr_ref).trans <|
  l_callV (u := 1) (v := (.ref a5)) (as := []) (show gPG 30 58 = some (jinvI 1 204) by decide +kernel) (by decide) (cc := 295) (na := 1) (kd := 1) (q4 := 0) (z := 10) (rest := [.int i4]) (by decide +kernel) (by decide +kernel)  rfl (show (1 : Nat) ≤ 2 by decide) rfl (csi cs0) (by decide +kernel) (cav jr_ref ca0)))
theorem b30_48 (d : Nat) (μ : jM) (u0 : Value) (u1 : Value) (u2 : Value) (u3 : Value) (u4 : Value) (u5 : Value) (s0 : Int32) : jR d 30 48 [u0, u1, u2, u3, u4, u5] [.int s0] μ = some (some (.int s0), μ) :=
  l_iret1 (show gPG 30 48 = some (.ireturn) by decide +kernel) (by decide +kernel)
theorem b30_61 (d : Nat) (μ : jM) (u0 : Value) (u1 : Value) (u2 : Value) (u3 : Value) (i4 : Int32) (a5 : Nat) (s0 : Int32) (s1 : Int32) : jR (d + 1) 30 61 [u0, u1, u2, u3, .int i4, (.ref a5)] [.int s1, .int s0] μ = (if s0 < s1 then (if jrecv μ 1 ((.ref a5)) = true then (jC d 296 [(.ref a5), .int i4] μ).bind fun p1 => jR (d + 1) 30 71 [u0, u1, u2, u3, .int i4, (.ref a5)] (p1.1.toList ++ []) p1.2 else none) else jR (d + 1) 30 74 [u0, u1, u2, u3, .int i4, (.ref a5)] [] μ) :=
  (l_cmp (show gPG 30 61 = some (.if_icmp .ge 13) by decide +kernel) (t := 74) (by decide +kernel)).trans <| jm_ge.trans <| ite_cg (
  (l_aload (show gPG 30 64 = some (.aload 5) by decide +kernel) rfl jr_ref).trans <|
  (l_iload (show gPG 30 66 = some (.iload 4) by decide +kernel) rfl).trans <|
  l_callV (u := 1) (v := (.ref a5)) (as := [.int i4]) (show gPG 30 68 = some (jinvI 1 207) by decide +kernel) (by decide) (cc := 296) (na := 2) (kd := 1) (q4 := 0) (z := 10) (rest := []) (by decide +kernel) (by decide +kernel)  rfl (show (2 : Nat) ≤ 2 by decide) rfl cs0 (by decide +kernel) (cai (cav jr_ref ca0))) (
  rfl)
theorem b30_71 (d : Nat) (μ : jM) (u0 : Value) (u1 : Value) (u2 : Value) (u3 : Value) (u4 : Value) (u5 : Value) (s0 : Int32) : jR d 30 71 [u0, u1, u2, u3, u4, u5] [.int s0] μ = jR d 30 76 [u0, u1, u2, u3, u4, u5] [.int s0] μ :=
  l_goto (show gPG 30 71 = some (.goto 5) by decide +kernel) (t := 76) (by decide +kernel)
theorem b30_74 (d : Nat) (μ : jM) (u0 : Value) (u1 : Value) (u2 : Value) (u3 : Value) (u4 : Value) (u5 : Value) : jR d 30 74 [u0, u1, u2, u3, u4, u5] [] μ = jR d 30 76 [u0, u1, u2, u3, u4, u5] [.int (-12)] μ :=
  l_bipush (show gPG 30 74 = some (.bipush (-12)) by decide +kernel) (c := (-12)) (by decide +kernel)
theorem b30_76 (d : Nat) (μ : jM) (u0 : Value) (u1 : Value) (u2 : Value) (u3 : Value) (u4 : Value) (u5 : Value) (s0 : Int32) : jR d 30 76 [u0, u1, u2, u3, u4, u5] [.int s0] μ = some (some (.int s0), μ) :=
  l_iret1 (show gPG 30 76 = some (.ireturn) by decide +kernel) (by decide +kernel)
-- Top.rule
theorem b31_0 (d : Nat) (μ : jM) (a : Nat) (i1 : Int32) (i2 : Int32) (i3 : Int32) : jR (d + 1) 31 0 [.ref a, .int i1, .int i2, .int i3, .retAddr 0] [] μ = (jC d 32 [.int i1] μ).bind fun p1 => jR (d + 1) 31 4 [.ref a, .int i1, .int i2, .int i3, .retAddr 0] (p1.1.toList ++ []) p1.2 :=
  (l_iload_n (show gPG 31 0 = some (.iload_n 1) by decide +kernel) rfl).trans <|
  l_callS (u := 2) (as := [.int i1]) (show gPG 31 1 = some (jinvI 2 211) by decide +kernel) (by decide) (cc := 32) (na := 1) (q4 := 0) (z := 12) (rest := []) (by decide +kernel) (by decide +kernel)  rfl (show (1 : Nat) ≤ 1 by decide) rfl cs0 (by decide +kernel) (cai ca0) (fun e => absurd e (by decide))
theorem b31_4 (d : Nat) (μ : jM) (a : Nat) (i1 : Int32) (i2 : Int32) (i3 : Int32) (u4 : Value) (s0 : Int32) : jR (d + 1) 31 4 [.ref a, .int i1, .int i2, .int i3, u4] [.int s0] μ = (if s0 = 0 then jR (d + 1) 31 24 [.ref a, .int i1, .int i2, .int i3, u4] [] μ else (jC d 33 [.int i2] μ).bind fun p1 => jR (d + 1) 31 11 [.ref a, .int i1, .int i2, .int i3, u4] (p1.1.toList ++ []) p1.2) :=
  (l_cmp0 (show gPG 31 4 = some (.ifCond .eq 20) by decide +kernel) (t := 24) (by decide +kernel)).trans <| jm_eq.trans <| ite_cg (
  rfl) (
  (l_iload_n (show gPG 31 7 = some (.iload_n 2) by decide +kernel) rfl).trans <|
  l_callS (u := 2) (as := [.int i2]) (show gPG 31 8 = some (jinvI 2 214) by decide +kernel) (by decide) (cc := 33) (na := 1) (q4 := 0) (z := 12) (rest := []) (by decide +kernel) (by decide +kernel)  rfl (show (1 : Nat) ≤ 1 by decide) rfl cs0 (by decide +kernel) (cai ca0) (fun e => absurd e (by decide)))
theorem b31_11 (d : Nat) (μ : jM) (a : Nat) (i1 : Int32) (i2 : Int32) (i3 : Int32) (u4 : Value) (s0 : Int32) : jR (d + 1) 31 11 [.ref a, .int i1, .int i2, .int i3, u4] [.int s0] μ = (if s0 = 0 then jR (d + 1) 31 24 [.ref a, .int i1, .int i2, .int i3, u4] [] μ else (jC d 13 [.int i3, .int 0, .int 99] μ).bind fun p1 => jR (d + 1) 31 21 [.ref a, .int i1, .int i2, .int i3, u4] (p1.1.toList ++ []) p1.2) :=
  (l_cmp0 (show gPG 31 11 = some (.ifCond .eq 13) by decide +kernel) (t := 24) (by decide +kernel)).trans <| jm_eq.trans <| ite_cg (
  rfl) (
  (l_iload_n (show gPG 31 14 = some (.iload_n 3) by decide +kernel) rfl).trans <|
  (l_iconst (show gPG 31 15 = some (.iconst 0) by decide +kernel) (c := 0) (by decide +kernel)).trans <|
  (l_bipush (show gPG 31 16 = some (.bipush 99) by decide +kernel) (c := 99) (by decide +kernel)).trans <|
  l_callS (u := 2) (as := [.int i3, .int 0, .int 99]) (show gPG 31 18 = some (jinvI 2 85) by decide +kernel) (by decide) (cc := 13) (na := 3) (q4 := 0) (z := 12) (rest := []) (by decide +kernel) (by decide +kernel)  rfl (show (3 : Nat) ≤ 3 by decide) rfl cs0 (by decide +kernel) (cai (cai (cai ca0))) (fun e => absurd e (by decide)))
theorem b31_21 (d : Nat) (μ : jM) (a : Nat) (i1 : Int32) (i2 : Int32) (i3 : Int32) (u4 : Value) (s0 : Int32) : jR d 31 21 [.ref a, .int i1, .int i2, .int i3, u4] [.int s0] μ = (if s0 = 0 then jR d 31 24 [.ref a, .int i1, .int i2, .int i3, u4] [] μ else (jgR μ 12 0 (.ref a)).bind fun w1 => (jgR μ 3 4 w1).bind fun w2 => (jgR μ 8 0 w2).bind fun w3 => (jaI μ w3 i1).bind fun x4 => (jgR μ 12 0 (.ref a)).bind fun w5 => (jgR μ 3 4 w5).bind fun w6 => (jgR μ 8 1 w6).bind fun w7 => (jaI μ w7 i1).bind fun x8 => (jgR μ 12 0 (.ref a)).bind fun w9 => (jgR μ 3 4 w9).bind fun w10 => (jgR μ 8 0 w10).bind fun w11 => (jsI μ w11 i1 i2).bind fun m12 => (jgR m12 12 0 (.ref a)).bind fun w13 => (jgR m12 3 4 w13).bind fun w14 => (jgR m12 8 1 w14).bind fun w15 => (jsI m12 w15 i1 i3).bind fun m16 => some (some (.int ((10 * x4) + x8)), m16)) :=
  (l_cmp0 (show gPG 31 21 = some (.ifCond .ne 6) by decide +kernel) (t := 27) (by decide +kernel)).trans <| jm_ne.trans <| ite_cg (
  rfl) (
  (l_bipush (show gPG 31 27 = some (.bipush 10) by decide +kernel) (c := 10) (by decide +kernel)).trans <|
  (l_aload_n (show gPG 31 29 = some (.aload_n 0) by decide +kernel) rfl jr_ref).trans <|
  (l_gR (show gPG 31 30 = some (.getfield 14) by decide +kernel) (kd := 12) (sl := 0) (tc := 1) (fin := 1) (z := 0) (by decide +kernel) (by decide +kernel) (by decide +kernel)).trans <| bd_cg fun w1 hw1 =>
  (l_gR (show gPG 31 33 = some (.getfield 217) by decide +kernel) (kd := 3) (sl := 4) (tc := 1) (fin := 1) (z := 1) (by decide +kernel) (by decide +kernel) (by decide +kernel)).trans <| bd_cg fun w2 hw2 =>
  (l_gR (show gPG 31 36 = some (.getfield 220) by decide +kernel) (kd := 8) (sl := 0) (tc := 1) (fin := 1) (z := 1) (by decide +kernel) (by decide +kernel) (by decide +kernel)).trans <| bd_cg fun w3 hw3 =>
  (l_iload_n (show gPG 31 39 = some (.iload_n 1) by decide +kernel) rfl).trans <|
  (l_iald (show gPG 31 40 = some (.iaload) by decide +kernel) ).trans <| bd_cg fun x4 hx4 =>
  (l_imul (show gPG 31 41 = some (.imul) by decide +kernel) ).trans <|
  (l_aload_n (show gPG 31 42 = some (.aload_n 0) by decide +kernel) rfl jr_ref).trans <|
  (l_gR (show gPG 31 43 = some (.getfield 14) by decide +kernel) (kd := 12) (sl := 0) (tc := 1) (fin := 1) (z := 0) (by decide +kernel) (by decide +kernel) (by decide +kernel)).trans <| bd_cg fun w5 hw5 =>
  (l_gR (show gPG 31 46 = some (.getfield 217) by decide +kernel) (kd := 3) (sl := 4) (tc := 1) (fin := 1) (z := 1) (by decide +kernel) (by decide +kernel) (by decide +kernel)).trans <| bd_cg fun w6 hw6 =>
  (l_gR (show gPG 31 49 = some (.getfield 224) by decide +kernel) (kd := 8) (sl := 1) (tc := 1) (fin := 1) (z := 1) (by decide +kernel) (by decide +kernel) (by decide +kernel)).trans <| bd_cg fun w7 hw7 =>
  (l_iload_n (show gPG 31 52 = some (.iload_n 1) by decide +kernel) rfl).trans <|
  (l_iald (show gPG 31 53 = some (.iaload) by decide +kernel) ).trans <| bd_cg fun x8 hx8 =>
  (l_iadd (show gPG 31 54 = some (.iadd) by decide +kernel) ).trans <|
  (l_istore (show gPG 31 55 = some (.istore 4) by decide +kernel) (ls := [.ref a, .int i1, .int i2, .int i3, u4]) (show (4 : Nat) < 5 by decide) (show _ = ([.ref a, .int i1, .int i2, .int i3, .int ((10 * x4) + x8)] : List Value) from rfl)).trans <|
  (l_aload_n (show gPG 31 57 = some (.aload_n 0) by decide +kernel) rfl jr_ref).trans <|
  (l_gR (show gPG 31 58 = some (.getfield 14) by decide +kernel) (kd := 12) (sl := 0) (tc := 1) (fin := 1) (z := 0) (by decide +kernel) (by decide +kernel) (by decide +kernel)).trans <| bd_cg fun w9 hw9 =>
  (l_gR (show gPG 31 61 = some (.getfield 217) by decide +kernel) (kd := 3) (sl := 4) (tc := 1) (fin := 1) (z := 1) (by decide +kernel) (by decide +kernel) (by decide +kernel)).trans <| bd_cg fun w10 hw10 =>
  (l_gR (show gPG 31 64 = some (.getfield 220) by decide +kernel) (kd := 8) (sl := 0) (tc := 1) (fin := 1) (z := 1) (by decide +kernel) (by decide +kernel) (by decide +kernel)).trans <| bd_cg fun w11 hw11 =>
  (l_iload_n (show gPG 31 67 = some (.iload_n 1) by decide +kernel) rfl).trans <|
  (l_iload_n (show gPG 31 68 = some (.iload_n 2) by decide +kernel) rfl).trans <|
  (l_iast (show gPG 31 69 = some (.iastore) by decide +kernel) ).trans <| bd_cg fun m12 hm12 =>
  (l_aload_n (show gPG 31 70 = some (.aload_n 0) by decide +kernel) rfl jr_ref).trans <|
  (l_gR (show gPG 31 71 = some (.getfield 14) by decide +kernel) (kd := 12) (sl := 0) (tc := 1) (fin := 1) (z := 0) (by decide +kernel) (by decide +kernel) (by decide +kernel)).trans <| bd_cg fun w13 hw13 =>
  (l_gR (show gPG 31 74 = some (.getfield 217) by decide +kernel) (kd := 3) (sl := 4) (tc := 1) (fin := 1) (z := 1) (by decide +kernel) (by decide +kernel) (by decide +kernel)).trans <| bd_cg fun w14 hw14 =>
  (l_gR (show gPG 31 77 = some (.getfield 224) by decide +kernel) (kd := 8) (sl := 1) (tc := 1) (fin := 1) (z := 1) (by decide +kernel) (by decide +kernel) (by decide +kernel)).trans <| bd_cg fun w15 hw15 =>
  (l_iload_n (show gPG 31 80 = some (.iload_n 1) by decide +kernel) rfl).trans <|
  (l_iload_n (show gPG 31 81 = some (.iload_n 3) by decide +kernel) rfl).trans <|
  (l_iast (show gPG 31 82 = some (.iastore) by decide +kernel) ).trans <| bd_cg fun m16 hm16 =>
  (l_iload (show gPG 31 83 = some (.iload 4) by decide +kernel) rfl).trans <|
  l_iret1 (show gPG 31 85 = some (.ireturn) by decide +kernel) (by decide +kernel))
theorem b31_24 (d : Nat) (μ : jM) (u0 : Value) (u1 : Value) (u2 : Value) (u3 : Value) (u4 : Value) : jR d 31 24 [u0, u1, u2, u3, u4] [] μ = some (some (.int (-2)), μ) :=
  (l_bipush (show gPG 31 24 = some (.bipush (-2)) by decide +kernel) (c := (-2)) (by decide +kernel)).trans <|
  l_iret1 (show gPG 31 26 = some (.ireturn) by decide +kernel) (by decide +kernel)
-- Top.isColumn
theorem b32_0 (d : Nat) (μ : jM) (i0 : Int32) : jR d 32 0 [.int i0] [] μ = (if i0 < 0 then jR d 32 13 [.int i0] [] μ else (if i0 < 3 then jR d 32 14 [.int i0] [.int 1] μ else jR d 32 13 [.int i0] [] μ)) :=
  (l_iload_n (show gPG 32 0 = some (.iload_n 0) by decide +kernel) rfl).trans <|
  (l_cmp0 (show gPG 32 1 = some (.ifCond .lt 12) by decide +kernel) (t := 13) (by decide +kernel)).trans <| jm_lt.trans <| ite_cg (
  rfl) (
  (l_iload_n (show gPG 32 4 = some (.iload_n 0) by decide +kernel) rfl).trans <|
  (l_iconst (show gPG 32 5 = some (.iconst 3) by decide +kernel) (c := 3) (by decide +kernel)).trans <|
  (l_cmp (show gPG 32 6 = some (.if_icmp .ge 7) by decide +kernel) (t := 13) (by decide +kernel)).trans <| jm_ge.trans <| ite_cg (
  (l_iconst (show gPG 32 9 = some (.iconst 1) by decide +kernel) (c := 1) (by decide +kernel)).trans <|
  l_goto (show gPG 32 10 = some (.goto 4) by decide +kernel) (t := 14) (by decide +kernel)) (
  rfl))
theorem b32_13 (d : Nat) (μ : jM) (u0 : Value) : jR d 32 13 [u0] [] μ = jR d 32 14 [u0] [.int 0] μ :=
  l_iconst (show gPG 32 13 = some (.iconst 0) by decide +kernel) (c := 0) (by decide +kernel)
theorem b32_14 (d : Nat) (μ : jM) (u0 : Value) (s0 : Int32) : jR d 32 14 [u0] [.int s0] μ = (if jrf 4 s0 = true then some (some (.int s0), μ) else none) :=
  l_iret (show gPG 32 14 = some (.ireturn) by decide +kernel) (rc := 4) (by decide +kernel)
-- Top.isRuleKind
theorem b33_0 (d : Nat) (μ : jM) (i0 : Int32) : jR d 33 0 [.int i0] [] μ = (if i0 < 0 then jR d 33 14 [.int i0] [] μ else (if i0 < 6 then jR d 33 15 [.int i0] [.int 1] μ else jR d 33 14 [.int i0] [] μ)) :=
  (l_iload_n (show gPG 33 0 = some (.iload_n 0) by decide +kernel) rfl).trans <|
  (l_cmp0 (show gPG 33 1 = some (.ifCond .lt 13) by decide +kernel) (t := 14) (by decide +kernel)).trans <| jm_lt.trans <| ite_cg (
  rfl) (
  (l_iload_n (show gPG 33 4 = some (.iload_n 0) by decide +kernel) rfl).trans <|
  (l_bipush (show gPG 33 5 = some (.bipush 6) by decide +kernel) (c := 6) (by decide +kernel)).trans <|
  (l_cmp (show gPG 33 7 = some (.if_icmp .ge 7) by decide +kernel) (t := 14) (by decide +kernel)).trans <| jm_ge.trans <| ite_cg (
  (l_iconst (show gPG 33 10 = some (.iconst 1) by decide +kernel) (c := 1) (by decide +kernel)).trans <|
  l_goto (show gPG 33 11 = some (.goto 4) by decide +kernel) (t := 15) (by decide +kernel)) (
  rfl))
theorem b33_14 (d : Nat) (μ : jM) (u0 : Value) : jR d 33 14 [u0] [] μ = jR d 33 15 [u0] [.int 0] μ :=
  l_iconst (show gPG 33 14 = some (.iconst 0) by decide +kernel) (c := 0) (by decide +kernel)
theorem b33_15 (d : Nat) (μ : jM) (u0 : Value) (s0 : Int32) : jR d 33 15 [u0] [.int s0] μ = (if jrf 4 s0 = true then some (some (.int s0), μ) else none) :=
  l_iret (show gPG 33 15 = some (.ireturn) by decide +kernel) (rc := 4) (by decide +kernel)
-- Top.taken
theorem b34_0 (d : Nat) (μ : jM) (a : Nat) (i1 : Int32) (i2 : Int32) : jR (d + 1) 34 0 [.ref a, .int i1, .int i2] [] μ = (jC d 32 [.int i1] μ).bind fun p1 => jR (d + 1) 34 4 [.ref a, .int i1, .int i2] (p1.1.toList ++ []) p1.2 :=
  (l_iload_n (show gPG 34 0 = some (.iload_n 1) by decide +kernel) rfl).trans <|
  l_callS (u := 2) (as := [.int i1]) (show gPG 34 1 = some (jinvI 2 211) by decide +kernel) (by decide) (cc := 32) (na := 1) (q4 := 0) (z := 12) (rest := []) (by decide +kernel) (by decide +kernel)  rfl (show (1 : Nat) ≤ 1 by decide) rfl cs0 (by decide +kernel) (cai ca0) (fun e => absurd e (by decide))
theorem b34_4 (d : Nat) (μ : jM) (a : Nat) (i1 : Int32) (i2 : Int32) (s0 : Int32) : jR (d + 1) 34 4 [.ref a, .int i1, .int i2] [.int s0] μ = (if s0 = 0 then jR (d + 1) 34 14 [.ref a, .int i1, .int i2] [] μ else (jC d 33 [.int i2] μ).bind fun p1 => jR (d + 1) 34 11 [.ref a, .int i1, .int i2] (p1.1.toList ++ []) p1.2) :=
  (l_cmp0 (show gPG 34 4 = some (.ifCond .eq 10) by decide +kernel) (t := 14) (by decide +kernel)).trans <| jm_eq.trans <| ite_cg (
  rfl) (
  (l_iload_n (show gPG 34 7 = some (.iload_n 2) by decide +kernel) rfl).trans <|
  l_callS (u := 2) (as := [.int i2]) (show gPG 34 8 = some (jinvI 2 214) by decide +kernel) (by decide) (cc := 33) (na := 1) (q4 := 0) (z := 12) (rest := []) (by decide +kernel) (by decide +kernel)  rfl (show (1 : Nat) ≤ 1 by decide) rfl cs0 (by decide +kernel) (cai ca0) (fun e => absurd e (by decide)))
theorem b34_11 (d : Nat) (μ : jM) (a : Nat) (i1 : Int32) (i2 : Int32) (s0 : Int32) : jR (d + 1) 34 11 [.ref a, .int i1, .int i2] [.int s0] μ = (if s0 = 0 then jR (d + 1) 34 14 [.ref a, .int i1, .int i2] [] μ else (jgR μ 12 0 (.ref a)).bind fun w1 => (jgR μ 3 4 w1).bind fun w2 => (if jrecv μ 8 w2 = true then (jC d 122 [w2, .int i1, .int i2] μ).bind fun p3 => jR (d + 1) 34 29 [.ref a, .int i1, .int i2] (p3.1.toList ++ []) p3.2 else none)) :=
  (l_cmp0 (show gPG 34 11 = some (.ifCond .ne 6) by decide +kernel) (t := 17) (by decide +kernel)).trans <| jm_ne.trans <| ite_cg (
  rfl) (
  (l_aload_n (show gPG 34 17 = some (.aload_n 0) by decide +kernel) rfl jr_ref).trans <|
  (l_gR (show gPG 34 18 = some (.getfield 14) by decide +kernel) (kd := 12) (sl := 0) (tc := 1) (fin := 1) (z := 0) (by decide +kernel) (by decide +kernel) (by decide +kernel)).trans <| bd_cg fun w1 hw1 =>
  (l_gR (show gPG 34 21 = some (.getfield 217) by decide +kernel) (kd := 3) (sl := 4) (tc := 1) (fin := 1) (z := 1) (by decide +kernel) (by decide +kernel) (by decide +kernel)).trans <| bd_cg fun w2 hw2 =>
  (l_iload_n (show gPG 34 24 = some (.iload_n 1) by decide +kernel) rfl).trans <|
  (l_iload_n (show gPG 34 25 = some (.iload_n 2) by decide +kernel) rfl).trans <|
  l_callV (u := 1) (v := w2) (as := [.int i1, .int i2]) (show gPG 34 26 = some (jinvI 1 227) by decide +kernel) (by decide) (cc := 122) (na := 3) (kd := 8) (q4 := 0) (z := 11) (rest := []) (by decide +kernel) (by decide +kernel)  rfl (show (3 : Nat) ≤ 3 by decide) rfl cs0 (by decide +kernel) (cai (cai (cav (jr_gR hw2) ca0))))
theorem b34_14 (d : Nat) (μ : jM) (u0 : Value) (u1 : Value) (u2 : Value) : jR d 34 14 [u0, u1, u2] [] μ = some (some (.int (-2)), μ) :=
  (l_bipush (show gPG 34 14 = some (.bipush (-2)) by decide +kernel) (c := (-2)) (by decide +kernel)).trans <|
  l_iret1 (show gPG 34 16 = some (.ireturn) by decide +kernel) (by decide +kernel)
theorem b34_29 (d : Nat) (μ : jM) (a : Nat) (i1 : Int32) (u2 : Value) (s0 : Int32) : jR d 34 29 [.ref a, .int i1, u2] [.int s0] μ = (if s0 = 0 then jR d 34 49 [.ref a, .int i1, u2] [.int (-13)] μ else (jgR μ 12 0 (.ref a)).bind fun w1 => (jgR μ 3 4 w1).bind fun w2 => (jgR μ 8 1 w2).bind fun w3 => (jaI μ w3 i1).bind fun x4 => jR d 34 49 [.ref a, .int i1, u2] [.int x4] μ) :=
  (l_cmp0 (show gPG 34 29 = some (.ifCond .eq 18) by decide +kernel) (t := 47) (by decide +kernel)).trans <| jm_eq.trans <| ite_cg (
  l_bipush (show gPG 34 47 = some (.bipush (-13)) by decide +kernel) (c := (-13)) (by decide +kernel)) (
  (l_aload_n (show gPG 34 32 = some (.aload_n 0) by decide +kernel) rfl jr_ref).trans <|
  (l_gR (show gPG 34 33 = some (.getfield 14) by decide +kernel) (kd := 12) (sl := 0) (tc := 1) (fin := 1) (z := 0) (by decide +kernel) (by decide +kernel) (by decide +kernel)).trans <| bd_cg fun w1 hw1 =>
  (l_gR (show gPG 34 36 = some (.getfield 217) by decide +kernel) (kd := 3) (sl := 4) (tc := 1) (fin := 1) (z := 1) (by decide +kernel) (by decide +kernel) (by decide +kernel)).trans <| bd_cg fun w2 hw2 =>
  (l_gR (show gPG 34 39 = some (.getfield 224) by decide +kernel) (kd := 8) (sl := 1) (tc := 1) (fin := 1) (z := 1) (by decide +kernel) (by decide +kernel) (by decide +kernel)).trans <| bd_cg fun w3 hw3 =>
  (l_iload_n (show gPG 34 42 = some (.iload_n 1) by decide +kernel) rfl).trans <|
  (l_iald (show gPG 34 43 = some (.iaload) by decide +kernel) ).trans <| bd_cg fun x4 hx4 =>
  l_goto (show gPG 34 44 = some (.goto 5) by decide +kernel) (t := 49) (by decide +kernel))
theorem b34_49 (d : Nat) (μ : jM) (u0 : Value) (u1 : Value) (u2 : Value) (s0 : Int32) : jR d 34 49 [u0, u1, u2] [.int s0] μ = some (some (.int s0), μ) :=
  l_iret1 (show gPG 34 49 = some (.ireturn) by decide +kernel) (by decide +kernel)
-- Top.merge
theorem b35_0 (d : Nat) (μ : jM) (a : Nat) : jR (d + 1) 35 0 [.ref a] [] μ = (jgR μ 12 8 (.ref a)).bind fun w1 => (jgR μ 12 0 (.ref a)).bind fun w2 => (jgR μ 3 0 w2).bind fun w3 => (jgR μ 12 0 (.ref a)).bind fun w4 => (jgR μ 3 1 w4).bind fun w5 => (jgR μ 12 0 (.ref a)).bind fun w6 => (jgR μ 3 2 w6).bind fun w7 => (jgR μ 12 0 (.ref a)).bind fun w8 => (jgR μ 3 4 w8).bind fun w9 => (if jrecv μ 7 w1 = true then (jC d 112 [w1, w3, w5, w7, w9] μ).bind fun p10 => jR (d + 1) 35 35 [.ref a] (p10.1.toList ++ []) p10.2 else none) :=
  (l_aload_n (show gPG 35 0 = some (.aload_n 0) by decide +kernel) rfl jr_ref).trans <|
  (l_gR (show gPG 35 1 = some (.getfield 54) by decide +kernel) (kd := 12) (sl := 8) (tc := 1) (fin := 1) (z := 0) (by decide +kernel) (by decide +kernel) (by decide +kernel)).trans <| bd_cg fun w1 hw1 =>
  (l_aload_n (show gPG 35 4 = some (.aload_n 0) by decide +kernel) rfl jr_ref).trans <|
  (l_gR (show gPG 35 5 = some (.getfield 14) by decide +kernel) (kd := 12) (sl := 0) (tc := 1) (fin := 1) (z := 0) (by decide +kernel) (by decide +kernel) (by decide +kernel)).trans <| bd_cg fun w2 hw2 =>
  (l_gR (show gPG 35 8 = some (.getfield 230) by decide +kernel) (kd := 3) (sl := 0) (tc := 1) (fin := 1) (z := 1) (by decide +kernel) (by decide +kernel) (by decide +kernel)).trans <| bd_cg fun w3 hw3 =>
  (l_aload_n (show gPG 35 11 = some (.aload_n 0) by decide +kernel) rfl jr_ref).trans <|
  (l_gR (show gPG 35 12 = some (.getfield 14) by decide +kernel) (kd := 12) (sl := 0) (tc := 1) (fin := 1) (z := 0) (by decide +kernel) (by decide +kernel) (by decide +kernel)).trans <| bd_cg fun w4 hw4 =>
  (l_gR (show gPG 35 15 = some (.getfield 233) by decide +kernel) (kd := 3) (sl := 1) (tc := 1) (fin := 1) (z := 1) (by decide +kernel) (by decide +kernel) (by decide +kernel)).trans <| bd_cg fun w5 hw5 =>
  (l_aload_n (show gPG 35 18 = some (.aload_n 0) by decide +kernel) rfl jr_ref).trans <|
  (l_gR (show gPG 35 19 = some (.getfield 14) by decide +kernel) (kd := 12) (sl := 0) (tc := 1) (fin := 1) (z := 0) (by decide +kernel) (by decide +kernel) (by decide +kernel)).trans <| bd_cg fun w6 hw6 =>
  (l_gR (show gPG 35 22 = some (.getfield 236) by decide +kernel) (kd := 3) (sl := 2) (tc := 1) (fin := 1) (z := 1) (by decide +kernel) (by decide +kernel) (by decide +kernel)).trans <| bd_cg fun w7 hw7 =>
  (l_aload_n (show gPG 35 25 = some (.aload_n 0) by decide +kernel) rfl jr_ref).trans <|
  (l_gR (show gPG 35 26 = some (.getfield 14) by decide +kernel) (kd := 12) (sl := 0) (tc := 1) (fin := 1) (z := 0) (by decide +kernel) (by decide +kernel) (by decide +kernel)).trans <| bd_cg fun w8 hw8 =>
  (l_gR (show gPG 35 29 = some (.getfield 217) by decide +kernel) (kd := 3) (sl := 4) (tc := 1) (fin := 1) (z := 1) (by decide +kernel) (by decide +kernel) (by decide +kernel)).trans <| bd_cg fun w9 hw9 =>
  l_callV (u := 1) (v := w1) (as := [w3, w5, w7, w9]) (show gPG 35 32 = some (jinvI 1 239) by decide +kernel) (by decide) (cc := 112) (na := 5) (kd := 7) (q4 := 0) (z := 11) (rest := []) (by decide +kernel) (by decide +kernel)  rfl (show (5 : Nat) ≤ 5 by decide) rfl cs0 (by decide +kernel) (cav (jr_gR hw9) (cav (jr_gR hw7) (cav (jr_gR hw5) (cav (jr_gR hw3) (cav (jr_gR hw1) ca0)))))
theorem b35_35 (d : Nat) (μ : jM) (a : Nat) (s0 : Int32) : jR (d + 1) 35 35 [.ref a] [.int s0] μ = (if s0 = 0 then some (some (.int (-4)), μ) else (jgR μ 12 0 (.ref a)).bind fun w1 => (jgR μ 3 3 w1).bind fun w2 => (jgR μ 12 8 (.ref a)).bind fun w3 => (jgR μ 7 0 w3).bind fun w4 => (if jrecv μ 6 w2 = true then (jC d 90 [w2, w4] μ).bind fun p5 => jR (d + 1) 35 58 [.ref a] (p5.1.toList ++ []) p5.2 else none)) :=
  (l_cmp0 (show gPG 35 35 = some (.ifCond .ne 6) by decide +kernel) (t := 41) (by decide +kernel)).trans <| jm_ne.trans <| ite_cg (
  (l_bipush (show gPG 35 38 = some (.bipush (-4)) by decide +kernel) (c := (-4)) (by decide +kernel)).trans <|
  l_iret1 (show gPG 35 40 = some (.ireturn) by decide +kernel) (by decide +kernel)) (
  (l_aload_n (show gPG 35 41 = some (.aload_n 0) by decide +kernel) rfl jr_ref).trans <|
  (l_gR (show gPG 35 42 = some (.getfield 14) by decide +kernel) (kd := 12) (sl := 0) (tc := 1) (fin := 1) (z := 0) (by decide +kernel) (by decide +kernel) (by decide +kernel)).trans <| bd_cg fun w1 hw1 =>
  (l_gR (show gPG 35 45 = some (.getfield 243) by decide +kernel) (kd := 3) (sl := 3) (tc := 1) (fin := 1) (z := 1) (by decide +kernel) (by decide +kernel) (by decide +kernel)).trans <| bd_cg fun w2 hw2 =>
  (l_aload_n (show gPG 35 48 = some (.aload_n 0) by decide +kernel) rfl jr_ref).trans <|
  (l_gR (show gPG 35 49 = some (.getfield 54) by decide +kernel) (kd := 12) (sl := 8) (tc := 1) (fin := 1) (z := 0) (by decide +kernel) (by decide +kernel) (by decide +kernel)).trans <| bd_cg fun w3 hw3 =>
  (l_gR (show gPG 35 52 = some (.getfield 246) by decide +kernel) (kd := 7) (sl := 0) (tc := 1) (fin := 1) (z := 1) (by decide +kernel) (by decide +kernel) (by decide +kernel)).trans <| bd_cg fun w4 hw4 =>
  l_callV (u := 1) (v := w2) (as := [w4]) (show gPG 35 55 = some (jinvI 1 178) by decide +kernel) (by decide) (cc := 90) (na := 2) (kd := 6) (q4 := 0) (z := 11) (rest := []) (by decide +kernel) (by decide +kernel)  rfl (show (2 : Nat) ≤ 2 by decide) rfl cs0 (by decide +kernel) (cav (jr_gR hw4) (cav (jr_gR hw2) ca0)))
theorem b35_58 (d : Nat) (μ : jM) (a : Nat) : jR (d + 1) 35 58 [.ref a] [] μ = (jgR μ 12 6 (.ref a)).bind fun w1 => (jgR μ 12 8 (.ref a)).bind fun w2 => (jgR μ 7 1 w2).bind fun w3 => (if jrecv μ 4 w1 = true then (jC d 77 [w1, w3] μ).bind fun p4 => jR (d + 1) 35 72 [.ref a] (p4.1.toList ++ []) p4.2 else none) :=
  (l_aload_n (show gPG 35 58 = some (.aload_n 0) by decide +kernel) rfl jr_ref).trans <|
  (l_gR (show gPG 35 59 = some (.getfield 47) by decide +kernel) (kd := 12) (sl := 6) (tc := 1) (fin := 1) (z := 0) (by decide +kernel) (by decide +kernel) (by decide +kernel)).trans <| bd_cg fun w1 hw1 =>
  (l_aload_n (show gPG 35 62 = some (.aload_n 0) by decide +kernel) rfl jr_ref).trans <|
  (l_gR (show gPG 35 63 = some (.getfield 54) by decide +kernel) (kd := 12) (sl := 8) (tc := 1) (fin := 1) (z := 0) (by decide +kernel) (by decide +kernel) (by decide +kernel)).trans <| bd_cg fun w2 hw2 =>
  (l_gR (show gPG 35 66 = some (.getfield 247) by decide +kernel) (kd := 7) (sl := 1) (tc := 1) (fin := 1) (z := 1) (by decide +kernel) (by decide +kernel) (by decide +kernel)).trans <| bd_cg fun w3 hw3 =>
  l_callV (u := 1) (v := w1) (as := [w3]) (show gPG 35 69 = some (jinvI 1 248) by decide +kernel) (by decide) (cc := 77) (na := 2) (kd := 4) (q4 := 0) (z := 11) (rest := []) (by decide +kernel) (by decide +kernel)  rfl (show (2 : Nat) ≤ 2 by decide) rfl cs0 (by decide +kernel) (cav (jr_gR hw3) (cav (jr_gR hw1) ca0))
theorem b35_72 (d : Nat) (μ : jM) (a : Nat) : jR d 35 72 [.ref a] [] μ = (jpI μ 12 7 2 (.ref a) 1).bind fun m1 => (jgR m1 12 6 (.ref a)).bind fun w2 => (jgI m1 4 0 w2).bind fun x3 => some (some (.int x3), m1) :=
  (l_aload_n (show gPG 35 72 = some (.aload_n 0) by decide +kernel) rfl jr_ref).trans <|
  (l_iconst (show gPG 35 73 = some (.iconst 1) by decide +kernel) (c := 1) (by decide +kernel)).trans <|
  (l_pI (show gPG 35 74 = some (.putfield 251) by decide +kernel) (kd := 12) (sl := 7) (tc := 2) (fin := 0) (z := 0) (by decide +kernel) (by decide +kernel) (by decide +kernel)).trans <| bd_cg fun m1 hm1 =>
  (l_aload_n (show gPG 35 77 = some (.aload_n 0) by decide +kernel) rfl jr_ref).trans <|
  (l_gR (show gPG 35 78 = some (.getfield 47) by decide +kernel) (kd := 12) (sl := 6) (tc := 1) (fin := 1) (z := 0) (by decide +kernel) (by decide +kernel) (by decide +kernel)).trans <| bd_cg fun w2 hw2 =>
  (l_gI (show gPG 35 81 = some (.getfield 255) by decide +kernel) (kd := 4) (sl := 0) (tc := 0) (fin := 0) (z := 1) (by decide +kernel) (by decide +kernel) (by decide +kernel)).trans <| bd_cg fun x3 hx3 =>
  l_iret1 (show gPG 35 84 = some (.ireturn) by decide +kernel) (by decide +kernel)
-- Top.clash
theorem b36_0 (d : Nat) (μ : jM) (a : Nat) (i1 : Int32) (i2 : Int32) : jR (d + 1) 36 0 [.ref a, .int i1, .int i2] [] μ = (jC d 13 [.int i2, .int 0, .int 3] μ).bind fun p1 => jR (d + 1) 36 6 [.ref a, .int i1, .int i2] (p1.1.toList ++ []) p1.2 :=
  (l_iload_n (show gPG 36 0 = some (.iload_n 2) by decide +kernel) rfl).trans <|
  (l_iconst (show gPG 36 1 = some (.iconst 0) by decide +kernel) (c := 0) (by decide +kernel)).trans <|
  (l_iconst (show gPG 36 2 = some (.iconst 3) by decide +kernel) (c := 3) (by decide +kernel)).trans <|
  l_callS (u := 2) (as := [.int i2, .int 0, .int 3]) (show gPG 36 3 = some (jinvI 2 85) by decide +kernel) (by decide) (cc := 13) (na := 3) (q4 := 0) (z := 12) (rest := []) (by decide +kernel) (by decide +kernel)  rfl (show (3 : Nat) ≤ 3 by decide) rfl cs0 (by decide +kernel) (cai (cai (cai ca0))) (fun e => absurd e (by decide))
theorem b36_6 (d : Nat) (μ : jM) (a : Nat) (i1 : Int32) (i2 : Int32) (s0 : Int32) : jR (d + 1) 36 6 [.ref a, .int i1, .int i2] [.int s0] μ = (if s0 = 0 then some (some (.int (-2)), μ) else (jgR μ 12 6 (.ref a)).bind fun w1 => (if jrecv μ 4 w1 = true then (jC d 78 [w1, .int i1] μ).bind fun p2 => jR (d + 1) 36 20 [.ref a, .int i1, .int i2] (p2.1.toList ++ []) p2.2 else none)) :=
  (l_cmp0 (show gPG 36 6 = some (.ifCond .ne 6) by decide +kernel) (t := 12) (by decide +kernel)).trans <| jm_ne.trans <| ite_cg (
  (l_bipush (show gPG 36 9 = some (.bipush (-2)) by decide +kernel) (c := (-2)) (by decide +kernel)).trans <|
  l_iret1 (show gPG 36 11 = some (.ireturn) by decide +kernel) (by decide +kernel)) (
  (l_aload_n (show gPG 36 12 = some (.aload_n 0) by decide +kernel) rfl jr_ref).trans <|
  (l_gR (show gPG 36 13 = some (.getfield 47) by decide +kernel) (kd := 12) (sl := 6) (tc := 1) (fin := 1) (z := 0) (by decide +kernel) (by decide +kernel) (by decide +kernel)).trans <| bd_cg fun w1 hw1 =>
  (l_iload_n (show gPG 36 16 = some (.iload_n 1) by decide +kernel) rfl).trans <|
  l_callV (u := 1) (v := w1) (as := [.int i1]) (show gPG 36 17 = some (jinvI 1 256) by decide +kernel) (by decide) (cc := 78) (na := 2) (kd := 4) (q4 := 0) (z := 11) (rest := []) (by decide +kernel) (by decide +kernel)  rfl (show (2 : Nat) ≤ 2 by decide) rfl cs0 (by decide +kernel) (cai (cav (jr_gR hw1) ca0)))
theorem sw36_27 (x : Int32) : ((jsw (.tableswitch 55 0 2 #[25, 35, 45]) x).bind fun o => jtgt 27 o) = if x = 0 then some 52 else if x = 1 then some 62 else if x = 2 then some 72 else some 82 := by
  by_cases h0 : x = 0
  · subst h0; decide +kernel
  by_cases h1 : x = 1
  · subst h1; decide +kernel
  by_cases h2 : x = 2
  · subst h2; decide +kernel
  have g0 : x.toInt ≠ 0 := fun e => h0 (Int32.toInt_inj.mp (e.trans (by decide +kernel)))
  have g1 : x.toInt ≠ 1 := fun e => h1 (Int32.toInt_inj.mp (e.trans (by decide +kernel)))
  have g2 : x.toInt ≠ 2 := fun e => h2 (Int32.toInt_inj.mp (e.trans (by decide +kernel)))
  have e : jsw (.tableswitch 55 0 2 #[25, 35, 45]) x = some 55 := by
    show (if x.toInt < 0 ∨ 2 < x.toInt then _ else _) = _
    rw [if_pos (by omega)]
  rw [e]
  simp only [Option.bind_some, h0, if_false, h1, if_false, h2, if_false]
  decide +kernel
theorem b36_20 (d : Nat) (μ : jM) (a : Nat) (i1 : Int32) (i2 : Int32) (s0 : Int32) : jR d 36 20 [.ref a, .int i1, .int i2] [.int s0] μ = (if s0 = 0 then some (some (.int (-12)), μ) else (if i2 = 0 then (jgR μ 12 6 (.ref a)).bind fun w1 => (jgR μ 4 1 w1).bind fun w2 => (jaI μ w2 i1).bind fun x3 => some (some (.int x3), μ) else (if i2 = 1 then (jgR μ 12 6 (.ref a)).bind fun w4 => (jgR μ 4 2 w4).bind fun w5 => (jaI μ w5 i1).bind fun x6 => some (some (.int x6), μ) else (if i2 = 2 then (jgR μ 12 6 (.ref a)).bind fun w7 => (jgR μ 4 3 w7).bind fun w8 => (jaI μ w8 i1).bind fun x9 => some (some (.int x9), μ) else (jgR μ 12 6 (.ref a)).bind fun w10 => (jgR μ 4 4 w10).bind fun w11 => (jaI μ w11 i1).bind fun x12 => some (some (.int x12), μ))))) :=
  (l_cmp0 (show gPG 36 20 = some (.ifCond .ne 6) by decide +kernel) (t := 26) (by decide +kernel)).trans <| jm_ne.trans <| ite_cg (
  (l_bipush (show gPG 36 23 = some (.bipush (-12)) by decide +kernel) (c := (-12)) (by decide +kernel)).trans <|
  l_iret1 (show gPG 36 25 = some (.ireturn) by decide +kernel) (by decide +kernel)) (
  (l_iload_n (show gPG 36 26 = some (.iload_n 2) by decide +kernel) rfl).trans <|
  (l_tsw (show gPG 36 27 = some (.tableswitch 55 0 2 #[25, 35, 45]) by decide +kernel) sw36_27).trans <| ite_bd (
  (l_aload_n (show gPG 36 52 = some (.aload_n 0) by decide +kernel) rfl jr_ref).trans <|
  (l_gR (show gPG 36 53 = some (.getfield 47) by decide +kernel) (kd := 12) (sl := 6) (tc := 1) (fin := 1) (z := 0) (by decide +kernel) (by decide +kernel) (by decide +kernel)).trans <| bd_cg fun w1 hw1 =>
  (l_gR (show gPG 36 56 = some (.getfield 259) by decide +kernel) (kd := 4) (sl := 1) (tc := 1) (fin := 1) (z := 1) (by decide +kernel) (by decide +kernel) (by decide +kernel)).trans <| bd_cg fun w2 hw2 =>
  (l_iload_n (show gPG 36 59 = some (.iload_n 1) by decide +kernel) rfl).trans <|
  (l_iald (show gPG 36 60 = some (.iaload) by decide +kernel) ).trans <| bd_cg fun x3 hx3 =>
  l_iret1 (show gPG 36 61 = some (.ireturn) by decide +kernel) (by decide +kernel)) (
  ite_bd (
  (l_aload_n (show gPG 36 62 = some (.aload_n 0) by decide +kernel) rfl jr_ref).trans <|
  (l_gR (show gPG 36 63 = some (.getfield 47) by decide +kernel) (kd := 12) (sl := 6) (tc := 1) (fin := 1) (z := 0) (by decide +kernel) (by decide +kernel) (by decide +kernel)).trans <| bd_cg fun w4 hw4 =>
  (l_gR (show gPG 36 66 = some (.getfield 260) by decide +kernel) (kd := 4) (sl := 2) (tc := 1) (fin := 1) (z := 1) (by decide +kernel) (by decide +kernel) (by decide +kernel)).trans <| bd_cg fun w5 hw5 =>
  (l_iload_n (show gPG 36 69 = some (.iload_n 1) by decide +kernel) rfl).trans <|
  (l_iald (show gPG 36 70 = some (.iaload) by decide +kernel) ).trans <| bd_cg fun x6 hx6 =>
  l_iret1 (show gPG 36 71 = some (.ireturn) by decide +kernel) (by decide +kernel)) (
  ite_bd (
  (l_aload_n (show gPG 36 72 = some (.aload_n 0) by decide +kernel) rfl jr_ref).trans <|
  (l_gR (show gPG 36 73 = some (.getfield 47) by decide +kernel) (kd := 12) (sl := 6) (tc := 1) (fin := 1) (z := 0) (by decide +kernel) (by decide +kernel) (by decide +kernel)).trans <| bd_cg fun w7 hw7 =>
  (l_gR (show gPG 36 76 = some (.getfield 263) by decide +kernel) (kd := 4) (sl := 3) (tc := 1) (fin := 1) (z := 1) (by decide +kernel) (by decide +kernel) (by decide +kernel)).trans <| bd_cg fun w8 hw8 =>
  (l_iload_n (show gPG 36 79 = some (.iload_n 1) by decide +kernel) rfl).trans <|
  (l_iald (show gPG 36 80 = some (.iaload) by decide +kernel) ).trans <| bd_cg fun x9 hx9 =>
  l_iret1 (show gPG 36 81 = some (.ireturn) by decide +kernel) (by decide +kernel)) (
  sm_bd (
  (l_aload_n (show gPG 36 82 = some (.aload_n 0) by decide +kernel) rfl jr_ref).trans <|
  (l_gR (show gPG 36 83 = some (.getfield 47) by decide +kernel) (kd := 12) (sl := 6) (tc := 1) (fin := 1) (z := 0) (by decide +kernel) (by decide +kernel) (by decide +kernel)).trans <| bd_cg fun w10 hw10 =>
  (l_gR (show gPG 36 86 = some (.getfield 266) by decide +kernel) (kd := 4) (sl := 4) (tc := 1) (fin := 1) (z := 1) (by decide +kernel) (by decide +kernel) (by decide +kernel)).trans <| bd_cg fun w11 hw11 =>
  (l_iload_n (show gPG 36 89 = some (.iload_n 1) by decide +kernel) rfl).trans <|
  (l_iald (show gPG 36 90 = some (.iaload) by decide +kernel) ).trans <| bd_cg fun x12 hx12 =>
  l_iret1 (show gPG 36 91 = some (.ireturn) by decide +kernel) (by decide +kernel))))))
-- Top.settle
theorem b37_0 (d : Nat) (μ : jM) (a : Nat) (i1 : Int32) (i2 : Int32) : jR (d + 1) 37 0 [.ref a, .int i1, .int i2, .retAddr 0] [] μ = (jC d 13 [.int i2, .int 0, .int 2] μ).bind fun p1 => jR (d + 1) 37 6 [.ref a, .int i1, .int i2, .retAddr 0] (p1.1.toList ++ []) p1.2 :=
  (l_iload_n (show gPG 37 0 = some (.iload_n 2) by decide +kernel) rfl).trans <|
  (l_iconst (show gPG 37 1 = some (.iconst 0) by decide +kernel) (c := 0) (by decide +kernel)).trans <|
  (l_iconst (show gPG 37 2 = some (.iconst 2) by decide +kernel) (c := 2) (by decide +kernel)).trans <|
  l_callS (u := 2) (as := [.int i2, .int 0, .int 2]) (show gPG 37 3 = some (jinvI 2 85) by decide +kernel) (by decide) (cc := 13) (na := 3) (q4 := 0) (z := 12) (rest := []) (by decide +kernel) (by decide +kernel)  rfl (show (3 : Nat) ≤ 3 by decide) rfl cs0 (by decide +kernel) (cai (cai (cai ca0))) (fun e => absurd e (by decide))
theorem b37_6 (d : Nat) (μ : jM) (a : Nat) (i1 : Int32) (i2 : Int32) (u3 : Value) (s0 : Int32) : jR (d + 1) 37 6 [.ref a, .int i1, .int i2, u3] [.int s0] μ = (if s0 = 0 then some (some (.int (-2)), μ) else (jgR μ 12 6 (.ref a)).bind fun w1 => (if jrecv μ 4 w1 = true then (jC d 78 [w1, .int i1] μ).bind fun p2 => jR (d + 1) 37 20 [.ref a, .int i1, .int i2, u3] (p2.1.toList ++ []) p2.2 else none)) :=
  (l_cmp0 (show gPG 37 6 = some (.ifCond .ne 6) by decide +kernel) (t := 12) (by decide +kernel)).trans <| jm_ne.trans <| ite_cg (
  (l_bipush (show gPG 37 9 = some (.bipush (-2)) by decide +kernel) (c := (-2)) (by decide +kernel)).trans <|
  l_iret1 (show gPG 37 11 = some (.ireturn) by decide +kernel) (by decide +kernel)) (
  (l_aload_n (show gPG 37 12 = some (.aload_n 0) by decide +kernel) rfl jr_ref).trans <|
  (l_gR (show gPG 37 13 = some (.getfield 47) by decide +kernel) (kd := 12) (sl := 6) (tc := 1) (fin := 1) (z := 0) (by decide +kernel) (by decide +kernel) (by decide +kernel)).trans <| bd_cg fun w1 hw1 =>
  (l_iload_n (show gPG 37 16 = some (.iload_n 1) by decide +kernel) rfl).trans <|
  l_callV (u := 1) (v := w1) (as := [.int i1]) (show gPG 37 17 = some (jinvI 1 256) by decide +kernel) (by decide) (cc := 78) (na := 2) (kd := 4) (q4 := 0) (z := 11) (rest := []) (by decide +kernel) (by decide +kernel)  rfl (show (2 : Nat) ≤ 2 by decide) rfl cs0 (by decide +kernel) (cai (cav (jr_gR hw1) ca0)))
theorem b37_20 (d : Nat) (μ : jM) (a : Nat) (i1 : Int32) (i2 : Int32) (u3 : Value) (s0 : Int32) : jR d 37 20 [.ref a, .int i1, .int i2, u3] [.int s0] μ = (if s0 = 0 then some (some (.int (-12)), μ) else (jgR μ 12 6 (.ref a)).bind fun w1 => (jgR μ 4 4 w1).bind fun w2 => (jaI μ w2 i1).bind fun x3 => (if x3 = 1 then some (some (.int (-3)), μ) else (if i2 = 0 then (jgR μ 12 0 (.ref a)).bind fun w8 => (jgR μ 3 1 w8).bind fun w9 => jR d 37 78 [.ref a, .int i1, .int i2, u3] [w9] μ else (if i2 = 1 then (jgR μ 12 0 (.ref a)).bind fun w6 => (jgR μ 3 2 w6).bind fun w7 => jR d 37 78 [.ref a, .int i1, .int i2, u3] [w7] μ else (jgR μ 12 0 (.ref a)).bind fun w4 => (jgR μ 3 0 w4).bind fun w5 => jR d 37 78 [.ref a, .int i1, .int i2, u3] [w5] μ)))) :=
  (l_cmp0 (show gPG 37 20 = some (.ifCond .ne 6) by decide +kernel) (t := 26) (by decide +kernel)).trans <| jm_ne.trans <| ite_cg (
  (l_bipush (show gPG 37 23 = some (.bipush (-12)) by decide +kernel) (c := (-12)) (by decide +kernel)).trans <|
  l_iret1 (show gPG 37 25 = some (.ireturn) by decide +kernel) (by decide +kernel)) (
  (l_aload_n (show gPG 37 26 = some (.aload_n 0) by decide +kernel) rfl jr_ref).trans <|
  (l_gR (show gPG 37 27 = some (.getfield 47) by decide +kernel) (kd := 12) (sl := 6) (tc := 1) (fin := 1) (z := 0) (by decide +kernel) (by decide +kernel) (by decide +kernel)).trans <| bd_cg fun w1 hw1 =>
  (l_gR (show gPG 37 30 = some (.getfield 266) by decide +kernel) (kd := 4) (sl := 4) (tc := 1) (fin := 1) (z := 1) (by decide +kernel) (by decide +kernel) (by decide +kernel)).trans <| bd_cg fun w2 hw2 =>
  (l_iload_n (show gPG 37 33 = some (.iload_n 1) by decide +kernel) rfl).trans <|
  (l_iald (show gPG 37 34 = some (.iaload) by decide +kernel) ).trans <| bd_cg fun x3 hx3 =>
  (l_iconst (show gPG 37 35 = some (.iconst 1) by decide +kernel) (c := 1) (by decide +kernel)).trans <|
  (l_cmp (show gPG 37 36 = some (.if_icmp .ne 6) by decide +kernel) (t := 42) (by decide +kernel)).trans <| jm_ne.trans <| ite_cg (
  (l_bipush (show gPG 37 39 = some (.bipush (-3)) by decide +kernel) (c := (-3)) (by decide +kernel)).trans <|
  l_iret1 (show gPG 37 41 = some (.ireturn) by decide +kernel) (by decide +kernel)) (
  (l_iload_n (show gPG 37 42 = some (.iload_n 2) by decide +kernel) rfl).trans <|
  (l_cmp0 (show gPG 37 43 = some (.ifCond .ne 13) by decide +kernel) (t := 56) (by decide +kernel)).trans <| jm_ne.trans <| ite_cg (
  (l_aload_n (show gPG 37 46 = some (.aload_n 0) by decide +kernel) rfl jr_ref).trans <|
  (l_gR (show gPG 37 47 = some (.getfield 14) by decide +kernel) (kd := 12) (sl := 0) (tc := 1) (fin := 1) (z := 0) (by decide +kernel) (by decide +kernel) (by decide +kernel)).trans <| bd_cg fun w8 hw8 =>
  (l_gR (show gPG 37 50 = some (.getfield 233) by decide +kernel) (kd := 3) (sl := 1) (tc := 1) (fin := 1) (z := 1) (by decide +kernel) (by decide +kernel) (by decide +kernel)).trans <| bd_cg fun w9 hw9 =>
  l_goto (show gPG 37 53 = some (.goto 25) by decide +kernel) (t := 78) (by decide +kernel)) (
  (l_iload_n (show gPG 37 56 = some (.iload_n 2) by decide +kernel) rfl).trans <|
  (l_iconst (show gPG 37 57 = some (.iconst 1) by decide +kernel) (c := 1) (by decide +kernel)).trans <|
  (l_cmp (show gPG 37 58 = some (.if_icmp .ne 13) by decide +kernel) (t := 71) (by decide +kernel)).trans <| jm_ne.trans <| ite_cg (
  (l_aload_n (show gPG 37 61 = some (.aload_n 0) by decide +kernel) rfl jr_ref).trans <|
  (l_gR (show gPG 37 62 = some (.getfield 14) by decide +kernel) (kd := 12) (sl := 0) (tc := 1) (fin := 1) (z := 0) (by decide +kernel) (by decide +kernel) (by decide +kernel)).trans <| bd_cg fun w6 hw6 =>
  (l_gR (show gPG 37 65 = some (.getfield 236) by decide +kernel) (kd := 3) (sl := 2) (tc := 1) (fin := 1) (z := 1) (by decide +kernel) (by decide +kernel) (by decide +kernel)).trans <| bd_cg fun w7 hw7 =>
  l_goto (show gPG 37 68 = some (.goto 10) by decide +kernel) (t := 78) (by decide +kernel)) (
  (l_aload_n (show gPG 37 71 = some (.aload_n 0) by decide +kernel) rfl jr_ref).trans <|
  (l_gR (show gPG 37 72 = some (.getfield 14) by decide +kernel) (kd := 12) (sl := 0) (tc := 1) (fin := 1) (z := 0) (by decide +kernel) (by decide +kernel) (by decide +kernel)).trans <| bd_cg fun w4 hw4 =>
  (l_gR (show gPG 37 75 = some (.getfield 230) by decide +kernel) (kd := 3) (sl := 0) (tc := 1) (fin := 1) (z := 1) (by decide +kernel) (by decide +kernel) (by decide +kernel)).trans <| bd_cg fun w5 hw5 =>
  rfl))))
theorem b37_78 (d : Nat) (μ : jM) (a : Nat) (i1 : Int32) (u2 : Value) (u3 : Value) (s0 : Value) (hs0 : jisref s0 = true) : jR (d + 1) 37 78 [.ref a, .int i1, u2, u3] [s0] μ = (jgR μ 12 0 (.ref a)).bind fun w1 => (jgR μ 12 6 (.ref a)).bind fun w2 => (jgR μ 4 1 w2).bind fun w3 => (jaI μ w3 i1).bind fun x4 => (jgR μ 12 6 (.ref a)).bind fun w5 => (jgR μ 4 2 w5).bind fun w6 => (jaI μ w6 i1).bind fun x7 => (jgR μ 12 6 (.ref a)).bind fun w8 => (jgR μ 4 3 w8).bind fun w9 => (jaI μ w9 i1).bind fun x10 => (if jrecv μ 3 w1 = true then (jC d 71 [w1, s0, .int x4, .int x7, .int x10] μ).bind fun p11 => jR (d + 1) 37 114 [.ref a, .int i1, u2, s0] (p11.1.toList ++ []) p11.2 else none) :=
  (l_astore_n (show gPG 37 78 = some (.astore_n 3) by decide +kernel) (ls := [.ref a, .int i1, u2, u3]) hs0 (show (3 : Nat) < 4 by decide) (show _ = ([.ref a, .int i1, u2, s0] : List Value) from rfl)).trans <|
  (l_aload_n (show gPG 37 79 = some (.aload_n 0) by decide +kernel) rfl jr_ref).trans <|
  (l_gR (show gPG 37 80 = some (.getfield 14) by decide +kernel) (kd := 12) (sl := 0) (tc := 1) (fin := 1) (z := 0) (by decide +kernel) (by decide +kernel) (by decide +kernel)).trans <| bd_cg fun w1 hw1 =>
  (l_aload_n (show gPG 37 83 = some (.aload_n 3) by decide +kernel) rfl hs0).trans <|
  (l_aload_n (show gPG 37 84 = some (.aload_n 0) by decide +kernel) rfl jr_ref).trans <|
  (l_gR (show gPG 37 85 = some (.getfield 47) by decide +kernel) (kd := 12) (sl := 6) (tc := 1) (fin := 1) (z := 0) (by decide +kernel) (by decide +kernel) (by decide +kernel)).trans <| bd_cg fun w2 hw2 =>
  (l_gR (show gPG 37 88 = some (.getfield 259) by decide +kernel) (kd := 4) (sl := 1) (tc := 1) (fin := 1) (z := 1) (by decide +kernel) (by decide +kernel) (by decide +kernel)).trans <| bd_cg fun w3 hw3 =>
  (l_iload_n (show gPG 37 91 = some (.iload_n 1) by decide +kernel) rfl).trans <|
  (l_iald (show gPG 37 92 = some (.iaload) by decide +kernel) ).trans <| bd_cg fun x4 hx4 =>
  (l_aload_n (show gPG 37 93 = some (.aload_n 0) by decide +kernel) rfl jr_ref).trans <|
  (l_gR (show gPG 37 94 = some (.getfield 47) by decide +kernel) (kd := 12) (sl := 6) (tc := 1) (fin := 1) (z := 0) (by decide +kernel) (by decide +kernel) (by decide +kernel)).trans <| bd_cg fun w5 hw5 =>
  (l_gR (show gPG 37 97 = some (.getfield 260) by decide +kernel) (kd := 4) (sl := 2) (tc := 1) (fin := 1) (z := 1) (by decide +kernel) (by decide +kernel) (by decide +kernel)).trans <| bd_cg fun w6 hw6 =>
  (l_iload_n (show gPG 37 100 = some (.iload_n 1) by decide +kernel) rfl).trans <|
  (l_iald (show gPG 37 101 = some (.iaload) by decide +kernel) ).trans <| bd_cg fun x7 hx7 =>
  (l_aload_n (show gPG 37 102 = some (.aload_n 0) by decide +kernel) rfl jr_ref).trans <|
  (l_gR (show gPG 37 103 = some (.getfield 47) by decide +kernel) (kd := 12) (sl := 6) (tc := 1) (fin := 1) (z := 0) (by decide +kernel) (by decide +kernel) (by decide +kernel)).trans <| bd_cg fun w8 hw8 =>
  (l_gR (show gPG 37 106 = some (.getfield 263) by decide +kernel) (kd := 4) (sl := 3) (tc := 1) (fin := 1) (z := 1) (by decide +kernel) (by decide +kernel) (by decide +kernel)).trans <| bd_cg fun w9 hw9 =>
  (l_iload_n (show gPG 37 109 = some (.iload_n 1) by decide +kernel) rfl).trans <|
  (l_iald (show gPG 37 110 = some (.iaload) by decide +kernel) ).trans <| bd_cg fun x10 hx10 =>
  l_callV (u := 1) (v := w1) (as := [s0, .int x4, .int x7, .int x10]) (show gPG 37 111 = some (jinvI 1 269) by decide +kernel) (by decide) (cc := 71) (na := 5) (kd := 3) (q4 := 0) (z := 11) (rest := []) (by decide +kernel) (by decide +kernel)  rfl (show (5 : Nat) ≤ 5 by decide) rfl cs0 (by decide +kernel) (cai (cai (cai (cav hs0 (cav (jr_gR hw1) ca0)))))
theorem b37_114 (d : Nat) (μ : jM) (a : Nat) (i1 : Int32) (u2 : Value) (u3 : Value) : jR (d + 1) 37 114 [.ref a, .int i1, u2, u3] [] μ = (jgR μ 12 6 (.ref a)).bind fun w1 => (jgR μ 4 4 w1).bind fun w2 => (jsI μ w2 i1 1).bind fun m3 => (jgR m3 12 6 (.ref a)).bind fun w4 => (if jrecv m3 4 w4 = true then (jC d 79 [w4] m3).bind fun p5 => jR (d + 1) 37 131 [.ref a, .int i1, u2, u3] (p5.1.toList ++ []) p5.2 else none) :=
  (l_aload_n (show gPG 37 114 = some (.aload_n 0) by decide +kernel) rfl jr_ref).trans <|
  (l_gR (show gPG 37 115 = some (.getfield 47) by decide +kernel) (kd := 12) (sl := 6) (tc := 1) (fin := 1) (z := 0) (by decide +kernel) (by decide +kernel) (by decide +kernel)).trans <| bd_cg fun w1 hw1 =>
  (l_gR (show gPG 37 118 = some (.getfield 266) by decide +kernel) (kd := 4) (sl := 4) (tc := 1) (fin := 1) (z := 1) (by decide +kernel) (by decide +kernel) (by decide +kernel)).trans <| bd_cg fun w2 hw2 =>
  (l_iload_n (show gPG 37 121 = some (.iload_n 1) by decide +kernel) rfl).trans <|
  (l_iconst (show gPG 37 122 = some (.iconst 1) by decide +kernel) (c := 1) (by decide +kernel)).trans <|
  (l_iast (show gPG 37 123 = some (.iastore) by decide +kernel) ).trans <| bd_cg fun m3 hm3 =>
  (l_aload_n (show gPG 37 124 = some (.aload_n 0) by decide +kernel) rfl jr_ref).trans <|
  (l_gR (show gPG 37 125 = some (.getfield 47) by decide +kernel) (kd := 12) (sl := 6) (tc := 1) (fin := 1) (z := 0) (by decide +kernel) (by decide +kernel) (by decide +kernel)).trans <| bd_cg fun w4 hw4 =>
  l_callV (u := 1) (v := w4) (as := []) (show gPG 37 128 = some (jinvI 1 273) by decide +kernel) (by decide) (cc := 79) (na := 1) (kd := 4) (q4 := 0) (z := 11) (rest := []) (by decide +kernel) (by decide +kernel)  rfl (show (1 : Nat) ≤ 1 by decide) rfl cs0 (by decide +kernel) (cav (jr_gR hw4) ca0)
theorem b37_131 (d : Nat) (μ : jM) (u0 : Value) (u1 : Value) (u2 : Value) (u3 : Value) (s0 : Int32) : jR d 37 131 [u0, u1, u2, u3] [.int s0] μ = some (some (.int s0), μ) :=
  l_iret1 (show gPG 37 131 = some (.ireturn) by decide +kernel) (by decide +kernel)
-- Top.take
theorem b38_0 (d : Nat) (μ : jM) (a : Nat) : jR (d + 1) 38 0 [.ref a] [] μ = (jgI μ 12 7 (.ref a)).bind fun x1 => (if x1 = 0 then jR (d + 1) 38 17 [.ref a] [] μ else (jgR μ 12 6 (.ref a)).bind fun w2 => (if jrecv μ 4 w2 = true then (jC d 79 [w2] μ).bind fun p3 => jR (d + 1) 38 14 [.ref a] (p3.1.toList ++ []) p3.2 else none)) :=
  (l_aload_n (show gPG 38 0 = some (.aload_n 0) by decide +kernel) rfl jr_ref).trans <|
  (l_gI (show gPG 38 1 = some (.getfield 251) by decide +kernel) (kd := 12) (sl := 7) (tc := 2) (fin := 0) (z := 0) (by decide +kernel) (by decide +kernel) (by decide +kernel)).trans <| bd_cg fun x1 hx1 =>
  (l_cmp0 (show gPG 38 4 = some (.ifCond .eq 13) by decide +kernel) (t := 17) (by decide +kernel)).trans <| jm_eq.trans <| ite_cg (
  rfl) (
  (l_aload_n (show gPG 38 7 = some (.aload_n 0) by decide +kernel) rfl jr_ref).trans <|
  (l_gR (show gPG 38 8 = some (.getfield 47) by decide +kernel) (kd := 12) (sl := 6) (tc := 1) (fin := 1) (z := 0) (by decide +kernel) (by decide +kernel) (by decide +kernel)).trans <| bd_cg fun w2 hw2 =>
  l_callV (u := 1) (v := w2) (as := []) (show gPG 38 11 = some (jinvI 1 273) by decide +kernel) (by decide) (cc := 79) (na := 1) (kd := 4) (q4 := 0) (z := 11) (rest := []) (by decide +kernel) (by decide +kernel)  rfl (show (1 : Nat) ≤ 1 by decide) rfl cs0 (by decide +kernel) (cav (jr_gR hw2) ca0))
theorem b38_14 (d : Nat) (μ : jM) (a : Nat) (s0 : Int32) : jR (d + 1) 38 14 [.ref a] [.int s0] μ = (if 0 < s0 then jR (d + 1) 38 17 [.ref a] [] μ else (if jrecv μ 12 (.ref a) = true then (jC d 19 [.ref a] μ).bind fun p1 => jR (d + 1) 38 24 [.ref a] (p1.1.toList ++ []) p1.2 else none)) :=
  (l_cmp0 (show gPG 38 14 = some (.ifCond .le 6) by decide +kernel) (t := 20) (by decide +kernel)).trans <| jm_le.trans <| ite_cg (
  rfl) (
  (l_aload_n (show gPG 38 20 = some (.aload_n 0) by decide +kernel) rfl jr_ref).trans <|
  l_callV (u := 1) (v := .ref a) (as := []) (show gPG 38 21 = some (jinvI 1 119) by decide +kernel) (by decide) (cc := 19) (na := 1) (kd := 12) (q4 := 0) (z := 10) (rest := []) (by decide +kernel) (by decide +kernel)  rfl (show (1 : Nat) ≤ 1 by decide) rfl cs0 (by decide +kernel) (cav jr_ref ca0))
theorem b38_17 (d : Nat) (μ : jM) (u0 : Value) : jR d 38 17 [u0] [] μ = some (some (.int (-3)), μ) :=
  (l_bipush (show gPG 38 17 = some (.bipush (-3)) by decide +kernel) (c := (-3)) (by decide +kernel)).trans <|
  l_iret1 (show gPG 38 19 = some (.ireturn) by decide +kernel) (by decide +kernel)
theorem b38_24 (d : Nat) (μ : jM) (a : Nat) : jR (d + 1) 38 24 [.ref a] [] μ = (jgR μ 12 0 (.ref a)).bind fun w1 => (jgR μ 3 0 w1).bind fun w2 => (jgR μ 12 0 (.ref a)).bind fun w3 => (jgR μ 3 3 w3).bind fun w4 => (if jrecv μ 6 w2 = true then (jC d 90 [w2, w4] μ).bind fun p5 => jR (d + 1) 38 41 [.ref a] (p5.1.toList ++ []) p5.2 else none) :=
  (l_aload_n (show gPG 38 24 = some (.aload_n 0) by decide +kernel) rfl jr_ref).trans <|
  (l_gR (show gPG 38 25 = some (.getfield 14) by decide +kernel) (kd := 12) (sl := 0) (tc := 1) (fin := 1) (z := 0) (by decide +kernel) (by decide +kernel) (by decide +kernel)).trans <| bd_cg fun w1 hw1 =>
  (l_gR (show gPG 38 28 = some (.getfield 230) by decide +kernel) (kd := 3) (sl := 0) (tc := 1) (fin := 1) (z := 1) (by decide +kernel) (by decide +kernel) (by decide +kernel)).trans <| bd_cg fun w2 hw2 =>
  (l_aload_n (show gPG 38 31 = some (.aload_n 0) by decide +kernel) rfl jr_ref).trans <|
  (l_gR (show gPG 38 32 = some (.getfield 14) by decide +kernel) (kd := 12) (sl := 0) (tc := 1) (fin := 1) (z := 0) (by decide +kernel) (by decide +kernel) (by decide +kernel)).trans <| bd_cg fun w3 hw3 =>
  (l_gR (show gPG 38 35 = some (.getfield 243) by decide +kernel) (kd := 3) (sl := 3) (tc := 1) (fin := 1) (z := 1) (by decide +kernel) (by decide +kernel) (by decide +kernel)).trans <| bd_cg fun w4 hw4 =>
  l_callV (u := 1) (v := w2) (as := [w4]) (show gPG 38 38 = some (jinvI 1 178) by decide +kernel) (by decide) (cc := 90) (na := 2) (kd := 6) (q4 := 0) (z := 11) (rest := []) (by decide +kernel) (by decide +kernel)  rfl (show (2 : Nat) ≤ 2 by decide) rfl cs0 (by decide +kernel) (cav (jr_gR hw4) (cav (jr_gR hw2) ca0))
theorem b38_41 (d : Nat) (μ : jM) (a : Nat) : jR (d + 1) 38 41 [.ref a] [] μ = (jgR μ 12 0 (.ref a)).bind fun w1 => (jgR μ 3 1 w1).bind fun w2 => (jgR μ 12 0 (.ref a)).bind fun w3 => (jgR μ 3 3 w3).bind fun w4 => (if jrecv μ 6 w2 = true then (jC d 90 [w2, w4] μ).bind fun p5 => jR (d + 1) 38 58 [.ref a] (p5.1.toList ++ []) p5.2 else none) :=
  (l_aload_n (show gPG 38 41 = some (.aload_n 0) by decide +kernel) rfl jr_ref).trans <|
  (l_gR (show gPG 38 42 = some (.getfield 14) by decide +kernel) (kd := 12) (sl := 0) (tc := 1) (fin := 1) (z := 0) (by decide +kernel) (by decide +kernel) (by decide +kernel)).trans <| bd_cg fun w1 hw1 =>
  (l_gR (show gPG 38 45 = some (.getfield 233) by decide +kernel) (kd := 3) (sl := 1) (tc := 1) (fin := 1) (z := 1) (by decide +kernel) (by decide +kernel) (by decide +kernel)).trans <| bd_cg fun w2 hw2 =>
  (l_aload_n (show gPG 38 48 = some (.aload_n 0) by decide +kernel) rfl jr_ref).trans <|
  (l_gR (show gPG 38 49 = some (.getfield 14) by decide +kernel) (kd := 12) (sl := 0) (tc := 1) (fin := 1) (z := 0) (by decide +kernel) (by decide +kernel) (by decide +kernel)).trans <| bd_cg fun w3 hw3 =>
  (l_gR (show gPG 38 52 = some (.getfield 243) by decide +kernel) (kd := 3) (sl := 3) (tc := 1) (fin := 1) (z := 1) (by decide +kernel) (by decide +kernel) (by decide +kernel)).trans <| bd_cg fun w4 hw4 =>
  l_callV (u := 1) (v := w2) (as := [w4]) (show gPG 38 55 = some (jinvI 1 178) by decide +kernel) (by decide) (cc := 90) (na := 2) (kd := 6) (q4 := 0) (z := 11) (rest := []) (by decide +kernel) (by decide +kernel)  rfl (show (2 : Nat) ≤ 2 by decide) rfl cs0 (by decide +kernel) (cav (jr_gR hw4) (cav (jr_gR hw2) ca0))
theorem b38_58 (d : Nat) (μ : jM) (a : Nat) : jR (d + 1) 38 58 [.ref a] [] μ = (jgR μ 12 0 (.ref a)).bind fun w1 => (jgR μ 3 2 w1).bind fun w2 => (jgR μ 12 0 (.ref a)).bind fun w3 => (jgR μ 3 3 w3).bind fun w4 => (if jrecv μ 6 w2 = true then (jC d 90 [w2, w4] μ).bind fun p5 => jR (d + 1) 38 75 [.ref a] (p5.1.toList ++ []) p5.2 else none) :=
  (l_aload_n (show gPG 38 58 = some (.aload_n 0) by decide +kernel) rfl jr_ref).trans <|
  (l_gR (show gPG 38 59 = some (.getfield 14) by decide +kernel) (kd := 12) (sl := 0) (tc := 1) (fin := 1) (z := 0) (by decide +kernel) (by decide +kernel) (by decide +kernel)).trans <| bd_cg fun w1 hw1 =>
  (l_gR (show gPG 38 62 = some (.getfield 236) by decide +kernel) (kd := 3) (sl := 2) (tc := 1) (fin := 1) (z := 1) (by decide +kernel) (by decide +kernel) (by decide +kernel)).trans <| bd_cg fun w2 hw2 =>
  (l_aload_n (show gPG 38 65 = some (.aload_n 0) by decide +kernel) rfl jr_ref).trans <|
  (l_gR (show gPG 38 66 = some (.getfield 14) by decide +kernel) (kd := 12) (sl := 0) (tc := 1) (fin := 1) (z := 0) (by decide +kernel) (by decide +kernel) (by decide +kernel)).trans <| bd_cg fun w3 hw3 =>
  (l_gR (show gPG 38 69 = some (.getfield 243) by decide +kernel) (kd := 3) (sl := 3) (tc := 1) (fin := 1) (z := 1) (by decide +kernel) (by decide +kernel) (by decide +kernel)).trans <| bd_cg fun w4 hw4 =>
  l_callV (u := 1) (v := w2) (as := [w4]) (show gPG 38 72 = some (jinvI 1 178) by decide +kernel) (by decide) (cc := 90) (na := 2) (kd := 6) (q4 := 0) (z := 11) (rest := []) (by decide +kernel) (by decide +kernel)  rfl (show (2 : Nat) ≤ 2 by decide) rfl cs0 (by decide +kernel) (cav (jr_gR hw4) (cav (jr_gR hw2) ca0))
theorem b38_75 (d : Nat) (μ : jM) (a : Nat) : jR d 38 75 [.ref a] [] μ = (jgR μ 12 0 (.ref a)).bind fun w1 => (jgR μ 3 3 w1).bind fun w2 => (jgI μ 6 0 w2).bind fun x3 => some (some (.int x3), μ) :=
  (l_aload_n (show gPG 38 75 = some (.aload_n 0) by decide +kernel) rfl jr_ref).trans <|
  (l_gR (show gPG 38 76 = some (.getfield 14) by decide +kernel) (kd := 12) (sl := 0) (tc := 1) (fin := 1) (z := 0) (by decide +kernel) (by decide +kernel) (by decide +kernel)).trans <| bd_cg fun w1 hw1 =>
  (l_gR (show gPG 38 79 = some (.getfield 243) by decide +kernel) (kd := 3) (sl := 3) (tc := 1) (fin := 1) (z := 1) (by decide +kernel) (by decide +kernel) (by decide +kernel)).trans <| bd_cg fun w2 hw2 =>
  (l_gI (show gPG 38 82 = some (.getfield 139) by decide +kernel) (kd := 6) (sl := 0) (tc := 0) (fin := 0) (z := 1) (by decide +kernel) (by decide +kernel) (by decide +kernel)).trans <| bd_cg fun x3 hx3 =>
  l_iret1 (show gPG 38 85 = some (.ireturn) by decide +kernel) (by decide +kernel)
-- Top.undo
theorem b39_0 (d : Nat) (μ : jM) (a : Nat) : jR (d + 1) 39 0 [.ref a] [] μ = (jgR μ 12 0 (.ref a)).bind fun w1 => (if jrecv μ 3 w1 = true then (jC d 72 [w1] μ).bind fun p2 => jR (d + 1) 39 7 [.ref a] (p2.1.toList ++ []) p2.2 else none) :=
  (l_aload_n (show gPG 39 0 = some (.aload_n 0) by decide +kernel) rfl jr_ref).trans <|
  (l_gR (show gPG 39 1 = some (.getfield 14) by decide +kernel) (kd := 12) (sl := 0) (tc := 1) (fin := 1) (z := 0) (by decide +kernel) (by decide +kernel) (by decide +kernel)).trans <| bd_cg fun w1 hw1 =>
  l_callV (u := 1) (v := w1) (as := []) (show gPG 39 4 = some (jinvI 1 276) by decide +kernel) (by decide) (cc := 72) (na := 1) (kd := 3) (q4 := 0) (z := 11) (rest := []) (by decide +kernel) (by decide +kernel)  rfl (show (1 : Nat) ≤ 1 by decide) rfl cs0 (by decide +kernel) (cav (jr_gR hw1) ca0)
theorem b39_7 (d : Nat) (μ : jM) (a : Nat) (s0 : Int32) : jR (d + 1) 39 7 [.ref a] [.int s0] μ = (if s0 = 0 then some (some (.int (-3)), μ) else (if jrecv μ 12 (.ref a) = true then (jC d 20 [.ref a] μ).bind fun p1 => jR (d + 1) 39 17 [.ref a] (p1.1.toList ++ []) p1.2 else none)) :=
  (l_cmp0 (show gPG 39 7 = some (.ifCond .ne 6) by decide +kernel) (t := 13) (by decide +kernel)).trans <| jm_ne.trans <| ite_cg (
  (l_bipush (show gPG 39 10 = some (.bipush (-3)) by decide +kernel) (c := (-3)) (by decide +kernel)).trans <|
  l_iret1 (show gPG 39 12 = some (.ireturn) by decide +kernel) (by decide +kernel)) (
  (l_aload_n (show gPG 39 13 = some (.aload_n 0) by decide +kernel) rfl jr_ref).trans <|
  l_callV (u := 1) (v := .ref a) (as := []) (show gPG 39 14 = some (jinvI 1 280) by decide +kernel) (by decide) (cc := 20) (na := 1) (kd := 12) (q4 := 0) (z := 10) (rest := []) (by decide +kernel) (by decide +kernel)  rfl (show (1 : Nat) ≤ 1 by decide) rfl cs0 (by decide +kernel) (cav jr_ref ca0))
theorem b39_17 (d : Nat) (μ : jM) (a : Nat) : jR d 39 17 [.ref a] [] μ = (jgR μ 12 0 (.ref a)).bind fun w1 => (jgI μ 3 7 w1).bind fun x2 => some (some (.int x2), μ) :=
  (l_aload_n (show gPG 39 17 = some (.aload_n 0) by decide +kernel) rfl jr_ref).trans <|
  (l_gR (show gPG 39 18 = some (.getfield 14) by decide +kernel) (kd := 12) (sl := 0) (tc := 1) (fin := 1) (z := 0) (by decide +kernel) (by decide +kernel) (by decide +kernel)).trans <| bd_cg fun w1 hw1 =>
  (l_gI (show gPG 39 21 = some (.getfield 283) by decide +kernel) (kd := 3) (sl := 7) (tc := 0) (fin := 0) (z := 1) (by decide +kernel) (by decide +kernel) (by decide +kernel)).trans <| bd_cg fun x2 hx2 =>
  l_iret1 (show gPG 39 24 = some (.ireturn) by decide +kernel) (by decide +kernel)
-- Top.exchanged
theorem b40_0 (d : Nat) (μ : jM) (a : Nat) : jR (d + 1) 40 0 [.ref a] [] μ = (jgR μ 12 8 (.ref a)).bind fun w1 => (jgR μ 12 0 (.ref a)).bind fun w2 => (jgR μ 3 0 w2).bind fun w3 => (jgR μ 12 0 (.ref a)).bind fun w4 => (jgR μ 3 1 w4).bind fun w5 => (jgR μ 12 0 (.ref a)).bind fun w6 => (jgR μ 3 2 w6).bind fun w7 => (jgR μ 12 0 (.ref a)).bind fun w8 => (jgR μ 3 4 w8).bind fun w9 => (if jrecv μ 7 w1 = true then (jC d 112 [w1, w3, w5, w7, w9] μ).bind fun p10 => jR (d + 1) 40 35 [.ref a] (p10.1.toList ++ []) p10.2 else none) :=
  (l_aload_n (show gPG 40 0 = some (.aload_n 0) by decide +kernel) rfl jr_ref).trans <|
  (l_gR (show gPG 40 1 = some (.getfield 54) by decide +kernel) (kd := 12) (sl := 8) (tc := 1) (fin := 1) (z := 0) (by decide +kernel) (by decide +kernel) (by decide +kernel)).trans <| bd_cg fun w1 hw1 =>
  (l_aload_n (show gPG 40 4 = some (.aload_n 0) by decide +kernel) rfl jr_ref).trans <|
  (l_gR (show gPG 40 5 = some (.getfield 14) by decide +kernel) (kd := 12) (sl := 0) (tc := 1) (fin := 1) (z := 0) (by decide +kernel) (by decide +kernel) (by decide +kernel)).trans <| bd_cg fun w2 hw2 =>
  (l_gR (show gPG 40 8 = some (.getfield 230) by decide +kernel) (kd := 3) (sl := 0) (tc := 1) (fin := 1) (z := 1) (by decide +kernel) (by decide +kernel) (by decide +kernel)).trans <| bd_cg fun w3 hw3 =>
  (l_aload_n (show gPG 40 11 = some (.aload_n 0) by decide +kernel) rfl jr_ref).trans <|
  (l_gR (show gPG 40 12 = some (.getfield 14) by decide +kernel) (kd := 12) (sl := 0) (tc := 1) (fin := 1) (z := 0) (by decide +kernel) (by decide +kernel) (by decide +kernel)).trans <| bd_cg fun w4 hw4 =>
  (l_gR (show gPG 40 15 = some (.getfield 233) by decide +kernel) (kd := 3) (sl := 1) (tc := 1) (fin := 1) (z := 1) (by decide +kernel) (by decide +kernel) (by decide +kernel)).trans <| bd_cg fun w5 hw5 =>
  (l_aload_n (show gPG 40 18 = some (.aload_n 0) by decide +kernel) rfl jr_ref).trans <|
  (l_gR (show gPG 40 19 = some (.getfield 14) by decide +kernel) (kd := 12) (sl := 0) (tc := 1) (fin := 1) (z := 0) (by decide +kernel) (by decide +kernel) (by decide +kernel)).trans <| bd_cg fun w6 hw6 =>
  (l_gR (show gPG 40 22 = some (.getfield 236) by decide +kernel) (kd := 3) (sl := 2) (tc := 1) (fin := 1) (z := 1) (by decide +kernel) (by decide +kernel) (by decide +kernel)).trans <| bd_cg fun w7 hw7 =>
  (l_aload_n (show gPG 40 25 = some (.aload_n 0) by decide +kernel) rfl jr_ref).trans <|
  (l_gR (show gPG 40 26 = some (.getfield 14) by decide +kernel) (kd := 12) (sl := 0) (tc := 1) (fin := 1) (z := 0) (by decide +kernel) (by decide +kernel) (by decide +kernel)).trans <| bd_cg fun w8 hw8 =>
  (l_gR (show gPG 40 29 = some (.getfield 217) by decide +kernel) (kd := 3) (sl := 4) (tc := 1) (fin := 1) (z := 1) (by decide +kernel) (by decide +kernel) (by decide +kernel)).trans <| bd_cg fun w9 hw9 =>
  l_callV (u := 1) (v := w1) (as := [w3, w5, w7, w9]) (show gPG 40 32 = some (jinvI 1 239) by decide +kernel) (by decide) (cc := 112) (na := 5) (kd := 7) (q4 := 0) (z := 11) (rest := []) (by decide +kernel) (by decide +kernel)  rfl (show (5 : Nat) ≤ 5 by decide) rfl cs0 (by decide +kernel) (cav (jr_gR hw9) (cav (jr_gR hw7) (cav (jr_gR hw5) (cav (jr_gR hw3) (cav (jr_gR hw1) ca0)))))
theorem b40_35 (d : Nat) (μ : jM) (a : Nat) (s0 : Int32) : jR (d + 1) 40 35 [.ref a] [.int s0] μ = (if s0 = 0 then jR (d + 1) 40 76 [.ref a] [] μ else (jgR μ 12 9 (.ref a)).bind fun w1 => (jgR μ 12 0 (.ref a)).bind fun w2 => (jgR μ 3 0 w2).bind fun w3 => (jgR μ 12 0 (.ref a)).bind fun w4 => (jgR μ 3 2 w4).bind fun w5 => (jgR μ 12 0 (.ref a)).bind fun w6 => (jgR μ 3 1 w6).bind fun w7 => (jgR μ 12 0 (.ref a)).bind fun w8 => (jgR μ 3 4 w8).bind fun w9 => (if jrecv μ 7 w1 = true then (jC d 112 [w1, w3, w5, w7, w9] μ).bind fun p10 => jR (d + 1) 40 73 [.ref a] (p10.1.toList ++ []) p10.2 else none)) :=
  (l_cmp0 (show gPG 40 35 = some (.ifCond .eq 41) by decide +kernel) (t := 76) (by decide +kernel)).trans <| jm_eq.trans <| ite_cg (
  rfl) (
  (l_aload_n (show gPG 40 38 = some (.aload_n 0) by decide +kernel) rfl jr_ref).trans <|
  (l_gR (show gPG 40 39 = some (.getfield 58) by decide +kernel) (kd := 12) (sl := 9) (tc := 1) (fin := 1) (z := 0) (by decide +kernel) (by decide +kernel) (by decide +kernel)).trans <| bd_cg fun w1 hw1 =>
  (l_aload_n (show gPG 40 42 = some (.aload_n 0) by decide +kernel) rfl jr_ref).trans <|
  (l_gR (show gPG 40 43 = some (.getfield 14) by decide +kernel) (kd := 12) (sl := 0) (tc := 1) (fin := 1) (z := 0) (by decide +kernel) (by decide +kernel) (by decide +kernel)).trans <| bd_cg fun w2 hw2 =>
  (l_gR (show gPG 40 46 = some (.getfield 230) by decide +kernel) (kd := 3) (sl := 0) (tc := 1) (fin := 1) (z := 1) (by decide +kernel) (by decide +kernel) (by decide +kernel)).trans <| bd_cg fun w3 hw3 =>
  (l_aload_n (show gPG 40 49 = some (.aload_n 0) by decide +kernel) rfl jr_ref).trans <|
  (l_gR (show gPG 40 50 = some (.getfield 14) by decide +kernel) (kd := 12) (sl := 0) (tc := 1) (fin := 1) (z := 0) (by decide +kernel) (by decide +kernel) (by decide +kernel)).trans <| bd_cg fun w4 hw4 =>
  (l_gR (show gPG 40 53 = some (.getfield 236) by decide +kernel) (kd := 3) (sl := 2) (tc := 1) (fin := 1) (z := 1) (by decide +kernel) (by decide +kernel) (by decide +kernel)).trans <| bd_cg fun w5 hw5 =>
  (l_aload_n (show gPG 40 56 = some (.aload_n 0) by decide +kernel) rfl jr_ref).trans <|
  (l_gR (show gPG 40 57 = some (.getfield 14) by decide +kernel) (kd := 12) (sl := 0) (tc := 1) (fin := 1) (z := 0) (by decide +kernel) (by decide +kernel) (by decide +kernel)).trans <| bd_cg fun w6 hw6 =>
  (l_gR (show gPG 40 60 = some (.getfield 233) by decide +kernel) (kd := 3) (sl := 1) (tc := 1) (fin := 1) (z := 1) (by decide +kernel) (by decide +kernel) (by decide +kernel)).trans <| bd_cg fun w7 hw7 =>
  (l_aload_n (show gPG 40 63 = some (.aload_n 0) by decide +kernel) rfl jr_ref).trans <|
  (l_gR (show gPG 40 64 = some (.getfield 14) by decide +kernel) (kd := 12) (sl := 0) (tc := 1) (fin := 1) (z := 0) (by decide +kernel) (by decide +kernel) (by decide +kernel)).trans <| bd_cg fun w8 hw8 =>
  (l_gR (show gPG 40 67 = some (.getfield 217) by decide +kernel) (kd := 3) (sl := 4) (tc := 1) (fin := 1) (z := 1) (by decide +kernel) (by decide +kernel) (by decide +kernel)).trans <| bd_cg fun w9 hw9 =>
  l_callV (u := 1) (v := w1) (as := [w3, w5, w7, w9]) (show gPG 40 70 = some (jinvI 1 239) by decide +kernel) (by decide) (cc := 112) (na := 5) (kd := 7) (q4 := 0) (z := 11) (rest := []) (by decide +kernel) (by decide +kernel)  rfl (show (5 : Nat) ≤ 5 by decide) rfl cs0 (by decide +kernel) (cav (jr_gR hw9) (cav (jr_gR hw7) (cav (jr_gR hw5) (cav (jr_gR hw3) (cav (jr_gR hw1) ca0))))))
theorem b40_73 (d : Nat) (μ : jM) (a : Nat) (s0 : Int32) : jR (d + 1) 40 73 [.ref a] [.int s0] μ = (if s0 = 0 then jR (d + 1) 40 76 [.ref a] [] μ else (jgR μ 12 8 (.ref a)).bind fun w1 => (jgR μ 7 0 w1).bind fun w2 => (jgR μ 12 9 (.ref a)).bind fun w3 => (jgR μ 7 0 w3).bind fun w4 => (if jrecv μ 6 w2 = true then (jC d 110 [w2, w4] μ).bind fun p5 => jR (d + 1) 40 96 [.ref a] (p5.1.toList ++ []) p5.2 else none)) :=
  (l_cmp0 (show gPG 40 73 = some (.ifCond .ne 6) by decide +kernel) (t := 79) (by decide +kernel)).trans <| jm_ne.trans <| ite_cg (
  rfl) (
  (l_aload_n (show gPG 40 79 = some (.aload_n 0) by decide +kernel) rfl jr_ref).trans <|
  (l_gR (show gPG 40 80 = some (.getfield 54) by decide +kernel) (kd := 12) (sl := 8) (tc := 1) (fin := 1) (z := 0) (by decide +kernel) (by decide +kernel) (by decide +kernel)).trans <| bd_cg fun w1 hw1 =>
  (l_gR (show gPG 40 83 = some (.getfield 246) by decide +kernel) (kd := 7) (sl := 0) (tc := 1) (fin := 1) (z := 1) (by decide +kernel) (by decide +kernel) (by decide +kernel)).trans <| bd_cg fun w2 hw2 =>
  (l_aload_n (show gPG 40 86 = some (.aload_n 0) by decide +kernel) rfl jr_ref).trans <|
  (l_gR (show gPG 40 87 = some (.getfield 58) by decide +kernel) (kd := 12) (sl := 9) (tc := 1) (fin := 1) (z := 0) (by decide +kernel) (by decide +kernel) (by decide +kernel)).trans <| bd_cg fun w3 hw3 =>
  (l_gR (show gPG 40 90 = some (.getfield 246) by decide +kernel) (kd := 7) (sl := 0) (tc := 1) (fin := 1) (z := 1) (by decide +kernel) (by decide +kernel) (by decide +kernel)).trans <| bd_cg fun w4 hw4 =>
  l_callV (u := 1) (v := w2) (as := [w4]) (show gPG 40 93 = some (jinvI 1 286) by decide +kernel) (by decide) (cc := 110) (na := 2) (kd := 6) (q4 := 0) (z := 11) (rest := []) (by decide +kernel) (by decide +kernel)  rfl (show (2 : Nat) ≤ 2 by decide) rfl cs0 (by decide +kernel) (cav (jr_gR hw4) (cav (jr_gR hw2) ca0)))
theorem b40_76 (d : Nat) (μ : jM) (u0 : Value) : jR d 40 76 [u0] [] μ = some (some (.int (-4)), μ) :=
  (l_bipush (show gPG 40 76 = some (.bipush (-4)) by decide +kernel) (c := (-4)) (by decide +kernel)).trans <|
  l_iret1 (show gPG 40 78 = some (.ireturn) by decide +kernel) (by decide +kernel)
theorem b40_96 (d : Nat) (μ : jM) (u0 : Value) (s0 : Int32) : jR d 40 96 [u0] [.int s0] μ = some (some (.int s0), μ) :=
  l_iret1 (show gPG 40 96 = some (.ireturn) by decide +kernel) (by decide +kernel)
-- Top.drawn
theorem b41_0 (d : Nat) (μ : jM) (a : Nat) (i1 : Int32) (i2 : Int32) : jR (d + 1) 41 0 [.ref a, .int i1, .int i2] [] μ = (jC d 13 [.int i2, .int 0, .int 20] μ).bind fun p1 => jR (d + 1) 41 7 [.ref a, .int i1, .int i2] (p1.1.toList ++ []) p1.2 :=
  (l_iload_n (show gPG 41 0 = some (.iload_n 2) by decide +kernel) rfl).trans <|
  (l_iconst (show gPG 41 1 = some (.iconst 0) by decide +kernel) (c := 0) (by decide +kernel)).trans <|
  (l_bipush (show gPG 41 2 = some (.bipush 20) by decide +kernel) (c := 20) (by decide +kernel)).trans <|
  l_callS (u := 2) (as := [.int i2, .int 0, .int 20]) (show gPG 41 4 = some (jinvI 2 85) by decide +kernel) (by decide) (cc := 13) (na := 3) (q4 := 0) (z := 12) (rest := []) (by decide +kernel) (by decide +kernel)  rfl (show (3 : Nat) ≤ 3 by decide) rfl cs0 (by decide +kernel) (cai (cai (cai ca0))) (fun e => absurd e (by decide))
theorem b41_7 (d : Nat) (μ : jM) (a : Nat) (i1 : Int32) (i2 : Int32) (s0 : Int32) : jR (d + 1) 41 7 [.ref a, .int i1, .int i2] [.int s0] μ = (if s0 = 0 then jR (d + 1) 41 21 [.ref a, .int i1, .int i2] [.int (-2)] μ else (if jrecv μ 12 (.ref a) = true then (jC d 42 [.ref a, .int i1, .int i2] μ).bind fun p1 => jR (d + 1) 41 16 [.ref a, .int i1, .int i2] (p1.1.toList ++ []) p1.2 else none)) :=
  (l_cmp0 (show gPG 41 7 = some (.ifCond .eq 12) by decide +kernel) (t := 19) (by decide +kernel)).trans <| jm_eq.trans <| ite_cg (
  l_bipush (show gPG 41 19 = some (.bipush (-2)) by decide +kernel) (c := (-2)) (by decide +kernel)) (
  (l_aload_n (show gPG 41 10 = some (.aload_n 0) by decide +kernel) rfl jr_ref).trans <|
  (l_iload_n (show gPG 41 11 = some (.iload_n 1) by decide +kernel) rfl).trans <|
  (l_iload_n (show gPG 41 12 = some (.iload_n 2) by decide +kernel) rfl).trans <|
  l_callV (u := 1) (v := .ref a) (as := [.int i1, .int i2]) (show gPG 41 13 = some (jinvI 1 290) by decide +kernel) (by decide) (cc := 42) (na := 3) (kd := 12) (q4 := 0) (z := 10) (rest := []) (by decide +kernel) (by decide +kernel)  rfl (show (3 : Nat) ≤ 3 by decide) rfl cs0 (by decide +kernel) (cai (cai (cav jr_ref ca0))))
theorem b41_16 (d : Nat) (μ : jM) (u0 : Value) (u1 : Value) (u2 : Value) (s0 : Int32) : jR d 41 16 [u0, u1, u2] [.int s0] μ = jR d 41 21 [u0, u1, u2] [.int s0] μ :=
  l_goto (show gPG 41 16 = some (.goto 5) by decide +kernel) (t := 21) (by decide +kernel)
theorem b41_21 (d : Nat) (μ : jM) (u0 : Value) (u1 : Value) (u2 : Value) (s0 : Int32) : jR d 41 21 [u0, u1, u2] [.int s0] μ = some (some (.int s0), μ) :=
  l_iret1 (show gPG 41 21 = some (.ireturn) by decide +kernel) (by decide +kernel)
-- Top.clashesDrawn
theorem b42_0 (d : Nat) (μ : jM) (a : Nat) (i1 : Int32) (i2 : Int32) : jR (d + 1) 42 0 [.ref a, .int i1, .int i2, .retAddr 0] [] μ = (jgR μ 12 10 (.ref a)).bind fun w1 => (jgR μ 12 0 (.ref a)).bind fun w2 => (jgR μ 3 1 w2).bind fun w3 => (if jrecv μ 6 w1 = true then (jC d 90 [w1, w3] μ).bind fun p4 => jR (d + 1) 42 14 [.ref a, .int i1, .int i2, .retAddr 0] (p4.1.toList ++ []) p4.2 else none) :=
  (l_aload_n (show gPG 42 0 = some (.aload_n 0) by decide +kernel) rfl jr_ref).trans <|
  (l_gR (show gPG 42 1 = some (.getfield 64) by decide +kernel) (kd := 12) (sl := 10) (tc := 1) (fin := 1) (z := 0) (by decide +kernel) (by decide +kernel) (by decide +kernel)).trans <| bd_cg fun w1 hw1 =>
  (l_aload_n (show gPG 42 4 = some (.aload_n 0) by decide +kernel) rfl jr_ref).trans <|
  (l_gR (show gPG 42 5 = some (.getfield 14) by decide +kernel) (kd := 12) (sl := 0) (tc := 1) (fin := 1) (z := 0) (by decide +kernel) (by decide +kernel) (by decide +kernel)).trans <| bd_cg fun w2 hw2 =>
  (l_gR (show gPG 42 8 = some (.getfield 233) by decide +kernel) (kd := 3) (sl := 1) (tc := 1) (fin := 1) (z := 1) (by decide +kernel) (by decide +kernel) (by decide +kernel)).trans <| bd_cg fun w3 hw3 =>
  l_callV (u := 1) (v := w1) (as := [w3]) (show gPG 42 11 = some (jinvI 1 178) by decide +kernel) (by decide) (cc := 90) (na := 2) (kd := 6) (q4 := 0) (z := 11) (rest := []) (by decide +kernel) (by decide +kernel)  rfl (show (2 : Nat) ≤ 2 by decide) rfl cs0 (by decide +kernel) (cav (jr_gR hw3) (cav (jr_gR hw1) ca0))
theorem b42_14 (d : Nat) (μ : jM) (a : Nat) (i1 : Int32) (i2 : Int32) (u3 : Value) : jR (d + 1) 42 14 [.ref a, .int i1, .int i2, u3] [] μ = (jgR μ 12 11 (.ref a)).bind fun w1 => (jgR μ 12 0 (.ref a)).bind fun w2 => (jgR μ 3 2 w2).bind fun w3 => (if jrecv μ 6 w1 = true then (jC d 90 [w1, w3] μ).bind fun p4 => jR (d + 1) 42 28 [.ref a, .int i1, .int i2, u3] (p4.1.toList ++ []) p4.2 else none) :=
  (l_aload_n (show gPG 42 14 = some (.aload_n 0) by decide +kernel) rfl jr_ref).trans <|
  (l_gR (show gPG 42 15 = some (.getfield 68) by decide +kernel) (kd := 12) (sl := 11) (tc := 1) (fin := 1) (z := 0) (by decide +kernel) (by decide +kernel) (by decide +kernel)).trans <| bd_cg fun w1 hw1 =>
  (l_aload_n (show gPG 42 18 = some (.aload_n 0) by decide +kernel) rfl jr_ref).trans <|
  (l_gR (show gPG 42 19 = some (.getfield 14) by decide +kernel) (kd := 12) (sl := 0) (tc := 1) (fin := 1) (z := 0) (by decide +kernel) (by decide +kernel) (by decide +kernel)).trans <| bd_cg fun w2 hw2 =>
  (l_gR (show gPG 42 22 = some (.getfield 236) by decide +kernel) (kd := 3) (sl := 2) (tc := 1) (fin := 1) (z := 1) (by decide +kernel) (by decide +kernel) (by decide +kernel)).trans <| bd_cg fun w3 hw3 =>
  l_callV (u := 1) (v := w1) (as := [w3]) (show gPG 42 25 = some (jinvI 1 178) by decide +kernel) (by decide) (cc := 90) (na := 2) (kd := 6) (q4 := 0) (z := 11) (rest := []) (by decide +kernel) (by decide +kernel)  rfl (show (2 : Nat) ≤ 2 by decide) rfl cs0 (by decide +kernel) (cav (jr_gR hw3) (cav (jr_gR hw1) ca0))
theorem b42_28 (d : Nat) (μ : jM) (a : Nat) (i1 : Int32) (i2 : Int32) (u3 : Value) : jR d 42 28 [.ref a, .int i1, .int i2, u3] [] μ = (jpI μ 12 13 0 (.ref a) i1).bind fun m1 => jR d 42 35 [.ref a, .int i1, .int i2, .int 0] [] m1 :=
  (l_aload_n (show gPG 42 28 = some (.aload_n 0) by decide +kernel) rfl jr_ref).trans <|
  (l_iload_n (show gPG 42 29 = some (.iload_n 1) by decide +kernel) rfl).trans <|
  (l_pI (show gPG 42 30 = some (.putfield 344) by decide +kernel) (kd := 12) (sl := 13) (tc := 0) (fin := 0) (z := 0) (by decide +kernel) (by decide +kernel) (by decide +kernel)).trans <| bd_cg fun m1 hm1 =>
  (l_iconst (show gPG 42 33 = some (.iconst 0) by decide +kernel) (c := 0) (by decide +kernel)).trans <|
  l_istore_n (show gPG 42 34 = some (.istore_n 3) by decide +kernel) (ls := [.ref a, .int i1, .int i2, u3]) (show (3 : Nat) < 4 by decide) (show _ = ([.ref a, .int i1, .int i2, .int 0] : List Value) from rfl)
theorem b42_35 (d : Nat) (μ : jM) (a : Nat) (u1 : Value) (i2 : Int32) (i3 : Int32) : jR (d + 1) 42 35 [.ref a, u1, .int i2, .int i3] [] μ = (if i3 < i2 then (if jrecv μ 12 (.ref a) = true then (jC d 43 [.ref a, .int 2] μ).bind fun p9 => jR (d + 1) 42 46 [.ref a, u1, .int i2, .int i3] (p9.1.toList ++ [.ref a]) p9.2 else none) else (jgR μ 12 8 (.ref a)).bind fun w1 => (jgR μ 12 0 (.ref a)).bind fun w2 => (jgR μ 3 0 w2).bind fun w3 => (jgR μ 12 10 (.ref a)).bind fun w4 => (jgR μ 12 11 (.ref a)).bind fun w5 => (jgR μ 12 0 (.ref a)).bind fun w6 => (jgR μ 3 4 w6).bind fun w7 => (if jrecv μ 7 w1 = true then (jC d 112 [w1, w3, w4, w5, w7] μ).bind fun p8 => jR (d + 1) 42 98 [.ref a, u1, .int i2, .int i3] (p8.1.toList ++ []) p8.2 else none)) :=
  (l_iload_n (show gPG 42 35 = some (.iload_n 3) by decide +kernel) rfl).trans <|
  (l_iload_n (show gPG 42 36 = some (.iload_n 2) by decide +kernel) rfl).trans <|
  (l_cmp (show gPG 42 37 = some (.if_icmp .ge 32) by decide +kernel) (t := 69) (by decide +kernel)).trans <| jm_ge.trans <| ite_cg (
  (l_aload_n (show gPG 42 40 = some (.aload_n 0) by decide +kernel) rfl jr_ref).trans <|
  (l_aload_n (show gPG 42 41 = some (.aload_n 0) by decide +kernel) rfl jr_ref).trans <|
  (l_iconst (show gPG 42 42 = some (.iconst 2) by decide +kernel) (c := 2) (by decide +kernel)).trans <|
  l_callV (u := 1) (v := .ref a) (as := [.int 2]) (show gPG 42 43 = some (jinvI 1 347) by decide +kernel) (by decide) (cc := 43) (na := 2) (kd := 12) (q4 := 0) (z := 10) (rest := [.ref a]) (by decide +kernel) (by decide +kernel)  rfl (show (2 : Nat) ≤ 3 by decide) rfl (csv jr_ref cs0) (by decide +kernel) (cai (cav jr_ref ca0))) (
  (l_aload_n (show gPG 42 69 = some (.aload_n 0) by decide +kernel) rfl jr_ref).trans <|
  (l_gR (show gPG 42 70 = some (.getfield 54) by decide +kernel) (kd := 12) (sl := 8) (tc := 1) (fin := 1) (z := 0) (by decide +kernel) (by decide +kernel) (by decide +kernel)).trans <| bd_cg fun w1 hw1 =>
  (l_aload_n (show gPG 42 73 = some (.aload_n 0) by decide +kernel) rfl jr_ref).trans <|
  (l_gR (show gPG 42 74 = some (.getfield 14) by decide +kernel) (kd := 12) (sl := 0) (tc := 1) (fin := 1) (z := 0) (by decide +kernel) (by decide +kernel) (by decide +kernel)).trans <| bd_cg fun w2 hw2 =>
  (l_gR (show gPG 42 77 = some (.getfield 230) by decide +kernel) (kd := 3) (sl := 0) (tc := 1) (fin := 1) (z := 1) (by decide +kernel) (by decide +kernel) (by decide +kernel)).trans <| bd_cg fun w3 hw3 =>
  (l_aload_n (show gPG 42 80 = some (.aload_n 0) by decide +kernel) rfl jr_ref).trans <|
  (l_gR (show gPG 42 81 = some (.getfield 64) by decide +kernel) (kd := 12) (sl := 10) (tc := 1) (fin := 1) (z := 0) (by decide +kernel) (by decide +kernel) (by decide +kernel)).trans <| bd_cg fun w4 hw4 =>
  (l_aload_n (show gPG 42 84 = some (.aload_n 0) by decide +kernel) rfl jr_ref).trans <|
  (l_gR (show gPG 42 85 = some (.getfield 68) by decide +kernel) (kd := 12) (sl := 11) (tc := 1) (fin := 1) (z := 0) (by decide +kernel) (by decide +kernel) (by decide +kernel)).trans <| bd_cg fun w5 hw5 =>
  (l_aload_n (show gPG 42 88 = some (.aload_n 0) by decide +kernel) rfl jr_ref).trans <|
  (l_gR (show gPG 42 89 = some (.getfield 14) by decide +kernel) (kd := 12) (sl := 0) (tc := 1) (fin := 1) (z := 0) (by decide +kernel) (by decide +kernel) (by decide +kernel)).trans <| bd_cg fun w6 hw6 =>
  (l_gR (show gPG 42 92 = some (.getfield 217) by decide +kernel) (kd := 3) (sl := 4) (tc := 1) (fin := 1) (z := 1) (by decide +kernel) (by decide +kernel) (by decide +kernel)).trans <| bd_cg fun w7 hw7 =>
  l_callV (u := 1) (v := w1) (as := [w3, w4, w5, w7]) (show gPG 42 95 = some (jinvI 1 239) by decide +kernel) (by decide) (cc := 112) (na := 5) (kd := 7) (q4 := 0) (z := 11) (rest := []) (by decide +kernel) (by decide +kernel)  rfl (show (5 : Nat) ≤ 5 by decide) rfl cs0 (by decide +kernel) (cav (jr_gR hw7) (cav (jr_gR hw5) (cav (jr_gR hw4) (cav (jr_gR hw3) (cav (jr_gR hw1) ca0))))))
theorem b42_46 (d : Nat) (μ : jM) (a : Nat) (u1 : Value) (i2 : Int32) (i3 : Int32) (s0 : Value) (s1 : Int32) (hs0 : jisref s0 = true) : jR d 42 46 [.ref a, u1, .int i2, .int i3] [.int s1, s0] μ = (if s1 = 0 then (jgR μ 12 10 (.ref a)).bind fun w2 => jR d 42 60 [.ref a, u1, .int i2, .int i3] [w2, s0] μ else (jgR μ 12 11 (.ref a)).bind fun w1 => jR d 42 60 [.ref a, u1, .int i2, .int i3] [w1, s0] μ) :=
  (l_cmp0 (show gPG 42 46 = some (.ifCond .ne 10) by decide +kernel) (t := 56) (by decide +kernel)).trans <| jm_ne.trans <| ite_cg (
  (l_aload_n (show gPG 42 49 = some (.aload_n 0) by decide +kernel) rfl jr_ref).trans <|
  (l_gR (show gPG 42 50 = some (.getfield 64) by decide +kernel) (kd := 12) (sl := 10) (tc := 1) (fin := 1) (z := 0) (by decide +kernel) (by decide +kernel) (by decide +kernel)).trans <| bd_cg fun w2 hw2 =>
  l_goto (show gPG 42 53 = some (.goto 7) by decide +kernel) (t := 60) (by decide +kernel)) (
  (l_aload_n (show gPG 42 56 = some (.aload_n 0) by decide +kernel) rfl jr_ref).trans <|
  (l_gR (show gPG 42 57 = some (.getfield 68) by decide +kernel) (kd := 12) (sl := 11) (tc := 1) (fin := 1) (z := 0) (by decide +kernel) (by decide +kernel) (by decide +kernel)).trans <| bd_cg fun w1 hw1 =>
  rfl)
theorem b42_60 (d : Nat) (μ : jM) (a : Nat) (u1 : Value) (i2 : Int32) (i3 : Int32) (s0 : Value) (s1 : Value) (hs0 : jisref s0 = true) (hs1 : jisref s1 = true) : jR (d + 1) 42 60 [.ref a, u1, .int i2, .int i3] [s1, s0] μ = (if jrecv μ 12 s0 = true then (jC d 44 [s0, s1] μ).bind fun p1 => jR (d + 1) 42 63 [.ref a, u1, .int i2, .int i3] (p1.1.toList ++ []) p1.2 else none) :=
  l_callV (u := 1) (v := s0) (as := [s1]) (show gPG 42 60 = some (jinvI 1 350) by decide +kernel) (by decide) (cc := 44) (na := 2) (kd := 12) (q4 := 0) (z := 10) (rest := []) (by decide +kernel) (by decide +kernel)  rfl (show (2 : Nat) ≤ 2 by decide) rfl cs0 (by decide +kernel) (cav hs1 (cav hs0 ca0))
theorem b42_63 (d : Nat) (μ : jM) (a : Nat) (u1 : Value) (i2 : Int32) (i3 : Int32) : jR d 42 63 [.ref a, u1, .int i2, .int i3] [] μ = jR d 42 35 [.ref a, u1, .int i2, .int (i3 + 1)] [] μ :=
  (l_iinc (show gPG 42 63 = some (.iinc 3 1) by decide +kernel) (c := 1) (by decide +kernel) rfl (show _ = ([.ref a, u1, .int i2, .int (i3 + 1)] : List Value) from rfl)).trans <|
  l_goto (show gPG 42 66 = some (.goto (-31)) by decide +kernel) (t := 35) (by decide +kernel)
theorem b42_98 (d : Nat) (μ : jM) (a : Nat) (u1 : Value) (u2 : Value) (u3 : Value) (s0 : Int32) : jR d 42 98 [.ref a, u1, u2, u3] [.int s0] μ = (if s0 = 0 then jR d 42 116 [.ref a, u1, u2, u3] [.int (-4)] μ else (jgR μ 12 8 (.ref a)).bind fun w1 => (jgR μ 7 1 w1).bind fun w2 => (jgI μ 4 0 w2).bind fun x3 => jR d 42 116 [.ref a, u1, u2, u3] [.int x3] μ) :=
  (l_cmp0 (show gPG 42 98 = some (.ifCond .eq 16) by decide +kernel) (t := 114) (by decide +kernel)).trans <| jm_eq.trans <| ite_cg (
  l_bipush (show gPG 42 114 = some (.bipush (-4)) by decide +kernel) (c := (-4)) (by decide +kernel)) (
  (l_aload_n (show gPG 42 101 = some (.aload_n 0) by decide +kernel) rfl jr_ref).trans <|
  (l_gR (show gPG 42 102 = some (.getfield 54) by decide +kernel) (kd := 12) (sl := 8) (tc := 1) (fin := 1) (z := 0) (by decide +kernel) (by decide +kernel) (by decide +kernel)).trans <| bd_cg fun w1 hw1 =>
  (l_gR (show gPG 42 105 = some (.getfield 247) by decide +kernel) (kd := 7) (sl := 1) (tc := 1) (fin := 1) (z := 1) (by decide +kernel) (by decide +kernel) (by decide +kernel)).trans <| bd_cg fun w2 hw2 =>
  (l_gI (show gPG 42 108 = some (.getfield 255) by decide +kernel) (kd := 4) (sl := 0) (tc := 0) (fin := 0) (z := 1) (by decide +kernel) (by decide +kernel) (by decide +kernel)).trans <| bd_cg fun x3 hx3 =>
  l_goto (show gPG 42 111 = some (.goto 5) by decide +kernel) (t := 116) (by decide +kernel))
theorem b42_116 (d : Nat) (μ : jM) (u0 : Value) (u1 : Value) (u2 : Value) (u3 : Value) (s0 : Int32) : jR d 42 116 [u0, u1, u2, u3] [.int s0] μ = some (some (.int s0), μ) :=
  l_iret1 (show gPG 42 116 = some (.ireturn) by decide +kernel) (by decide +kernel)
-- Top.drawBelow
theorem b43_0 (d : Nat) (μ : jM) (a : Nat) (i1 : Int32) : jR d 43 0 [.ref a, .int i1] [] μ = (jgI μ 12 13 (.ref a)).bind fun x1 => (jpI μ 12 13 0 (.ref a) ((x1 * 1103515245) + 12345)).bind fun m2 => (if 0 < i1 then (jgI m2 12 13 (.ref a)).bind fun x3 => if i1 = 0 then none else jR d 43 33 [.ref a, .int i1] [.int (((Int32.toUInt32 x3 >>> (Int32.toUInt32 9 &&& Int32.toUInt32 31)).toInt32) - ((Int32.toUInt32 x3 >>> (Int32.toUInt32 9 &&& Int32.toUInt32 31)).toInt32) / i1 * i1)] m2 else jR d 43 33 [.ref a, .int i1] [.int 0] m2) :=
  (l_aload_n (show gPG 43 0 = some (.aload_n 0) by decide +kernel) rfl jr_ref).trans <|
  (l_aload_n (show gPG 43 1 = some (.aload_n 0) by decide +kernel) rfl jr_ref).trans <|
  (l_gI (show gPG 43 2 = some (.getfield 344) by decide +kernel) (kd := 12) (sl := 13) (tc := 0) (fin := 0) (z := 0) (by decide +kernel) (by decide +kernel) (by decide +kernel)).trans <| bd_cg fun x1 hx1 =>
  (l_ldcw (show gPG 43 5 = some (.ldc_w 353) by decide +kernel) (c := 1103515245) (by decide +kernel)).trans <|
  (l_imul (show gPG 43 8 = some (.imul) by decide +kernel) ).trans <|
  (l_sipush (show gPG 43 9 = some (.sipush 12345) by decide +kernel) (c := 12345) (by decide +kernel)).trans <|
  (l_iadd (show gPG 43 12 = some (.iadd) by decide +kernel) ).trans <|
  (l_pI (show gPG 43 13 = some (.putfield 344) by decide +kernel) (kd := 12) (sl := 13) (tc := 0) (fin := 0) (z := 0) (by decide +kernel) (by decide +kernel) (by decide +kernel)).trans <| bd_cg fun m2 hm2 =>
  (l_iload_n (show gPG 43 16 = some (.iload_n 1) by decide +kernel) rfl).trans <|
  (l_cmp0 (show gPG 43 17 = some (.ifCond .le 15) by decide +kernel) (t := 32) (by decide +kernel)).trans <| jm_le.trans <| ite_cg (
  (l_aload_n (show gPG 43 20 = some (.aload_n 0) by decide +kernel) rfl jr_ref).trans <|
  (l_gI (show gPG 43 21 = some (.getfield 344) by decide +kernel) (kd := 12) (sl := 13) (tc := 0) (fin := 0) (z := 0) (by decide +kernel) (by decide +kernel) (by decide +kernel)).trans <| bd_cg fun x3 hx3 =>
  (l_bipush (show gPG 43 24 = some (.bipush 9) by decide +kernel) (c := 9) (by decide +kernel)).trans <|
  (l_iushr (show gPG 43 26 = some (.iushr) by decide +kernel) ).trans <|
  (l_iload_n (show gPG 43 27 = some (.iload_n 1) by decide +kernel) rfl).trans <|
  (l_irem (show gPG 43 28 = some (.irem) by decide +kernel)).trans <| ite_cg rfl (
  l_goto (show gPG 43 29 = some (.goto 4) by decide +kernel) (t := 33) (by decide +kernel))) (
  l_iconst (show gPG 43 32 = some (.iconst 0) by decide +kernel) (c := 0) (by decide +kernel))
theorem b43_33 (d : Nat) (μ : jM) (u0 : Value) (u1 : Value) (s0 : Int32) : jR d 43 33 [u0, u1] [.int s0] μ = some (some (.int s0), μ) :=
  l_iret1 (show gPG 43 33 = some (.ireturn) by decide +kernel) (by decide +kernel)
-- Top.drawCell
theorem b44_0 (d : Nat) (μ : jM) (a : Nat) (r1 : Value) (h1 : jisref r1 = true) : jR (d + 1) 44 0 [.ref a, r1, .retAddr 0, .retAddr 0] [] μ = (jgI μ 6 0 r1).bind fun x1 => (if x1 < 1 then some (none, μ) else (jgI μ 6 0 r1).bind fun x2 => (if jrecv μ 12 (.ref a) = true then (jC d 43 [.ref a, .int x2] μ).bind fun p3 => jR (d + 1) 44 17 [.ref a, r1, .retAddr 0, .retAddr 0] (p3.1.toList ++ []) p3.2 else none)) :=
  (l_aload_n (show gPG 44 0 = some (.aload_n 1) by decide +kernel) rfl h1).trans <|
  (l_gI (show gPG 44 1 = some (.getfield 139) by decide +kernel) (kd := 6) (sl := 0) (tc := 0) (fin := 0) (z := 1) (by decide +kernel) (by decide +kernel) (by decide +kernel)).trans <| bd_cg fun x1 hx1 =>
  (l_iconst (show gPG 44 4 = some (.iconst 1) by decide +kernel) (c := 1) (by decide +kernel)).trans <|
  (l_cmp (show gPG 44 5 = some (.if_icmp .ge 4) by decide +kernel) (t := 9) (by decide +kernel)).trans <| jm_ge.trans <| ite_cg (
  l_ret (show gPG 44 8 = some (.return_) by decide +kernel) (by decide +kernel)) (
  (l_aload_n (show gPG 44 9 = some (.aload_n 0) by decide +kernel) rfl jr_ref).trans <|
  (l_aload_n (show gPG 44 10 = some (.aload_n 1) by decide +kernel) rfl h1).trans <|
  (l_gI (show gPG 44 11 = some (.getfield 139) by decide +kernel) (kd := 6) (sl := 0) (tc := 0) (fin := 0) (z := 1) (by decide +kernel) (by decide +kernel) (by decide +kernel)).trans <| bd_cg fun x2 hx2 =>
  l_callV (u := 1) (v := .ref a) (as := [.int x2]) (show gPG 44 14 = some (jinvI 1 347) by decide +kernel) (by decide) (cc := 43) (na := 2) (kd := 12) (q4 := 0) (z := 10) (rest := []) (by decide +kernel) (by decide +kernel)  rfl (show (2 : Nat) ≤ 2 by decide) rfl cs0 (by decide +kernel) (cai (cav jr_ref ca0)))
theorem b44_17 (d : Nat) (μ : jM) (a : Nat) (r1 : Value) (u2 : Value) (u3 : Value) (s0 : Int32) (h1 : jisref r1 = true) : jR (d + 1) 44 17 [.ref a, r1, u2, u3] [.int s0] μ = (if jrecv μ 12 (.ref a) = true then (jC d 43 [.ref a, .int 3] μ).bind fun p1 => jR (d + 1) 44 23 [.ref a, r1, .int s0, u3] (p1.1.toList ++ []) p1.2 else none) :=
  (l_istore_n (show gPG 44 17 = some (.istore_n 2) by decide +kernel) (ls := [.ref a, r1, u2, u3]) (show (2 : Nat) < 4 by decide) (show _ = ([.ref a, r1, .int s0, u3] : List Value) from rfl)).trans <|
  (l_aload_n (show gPG 44 18 = some (.aload_n 0) by decide +kernel) rfl jr_ref).trans <|
  (l_iconst (show gPG 44 19 = some (.iconst 3) by decide +kernel) (c := 3) (by decide +kernel)).trans <|
  l_callV (u := 1) (v := .ref a) (as := [.int 3]) (show gPG 44 20 = some (jinvI 1 347) by decide +kernel) (by decide) (cc := 43) (na := 2) (kd := 12) (q4 := 0) (z := 10) (rest := []) (by decide +kernel) (by decide +kernel)  rfl (show (2 : Nat) ≤ 2 by decide) rfl cs0 (by decide +kernel) (cai (cav jr_ref ca0))
theorem b44_23 (d : Nat) (μ : jM) (a : Nat) (r1 : Value) (i2 : Int32) (u3 : Value) (s0 : Int32) (h1 : jisref r1 = true) : jR (d + 1) 44 23 [.ref a, r1, .int i2, u3] [.int s0] μ = (if jrecv μ 12 (.ref a) = true then (jC d 43 [.ref a, .int 10] μ).bind fun p1 => jR (d + 1) 44 34 [.ref a, r1, .int i2, .int s0] (p1.1.toList ++ [.int 1, .int s0, .int i2, r1]) p1.2 else none) :=
  (l_istore_n (show gPG 44 23 = some (.istore_n 3) by decide +kernel) (ls := [.ref a, r1, .int i2, u3]) (show (3 : Nat) < 4 by decide) (show _ = ([.ref a, r1, .int i2, .int s0] : List Value) from rfl)).trans <|
  (l_aload_n (show gPG 44 24 = some (.aload_n 1) by decide +kernel) rfl h1).trans <|
  (l_iload_n (show gPG 44 25 = some (.iload_n 2) by decide +kernel) rfl).trans <|
  (l_iload_n (show gPG 44 26 = some (.iload_n 3) by decide +kernel) rfl).trans <|
  (l_iconst (show gPG 44 27 = some (.iconst 1) by decide +kernel) (c := 1) (by decide +kernel)).trans <|
  (l_aload_n (show gPG 44 28 = some (.aload_n 0) by decide +kernel) rfl jr_ref).trans <|
  (l_bipush (show gPG 44 29 = some (.bipush 10) by decide +kernel) (c := 10) (by decide +kernel)).trans <|
  l_callV (u := 1) (v := .ref a) (as := [.int 10]) (show gPG 44 31 = some (jinvI 1 347) by decide +kernel) (by decide) (cc := 43) (na := 2) (kd := 12) (q4 := 0) (z := 10) (rest := [.int 1, .int s0, .int i2, r1]) (by decide +kernel) (by decide +kernel)  rfl (show (2 : Nat) ≤ 6 by decide) rfl (csi (csi (csi (csv h1 cs0)))) (by decide +kernel) (cai (cav jr_ref ca0))
theorem b44_34 (d : Nat) (μ : jM) (u0 : Value) (u1 : Value) (u2 : Value) (u3 : Value) (s0 : Value) (s1 : Int32) (s2 : Int32) (s3 : Int32) (s4 : Int32) (hs0 : jisref s0 = true) : jR (d + 1) 44 34 [u0, u1, u2, u3] [.int s4, .int s3, .int s2, .int s1, s0] μ = (if jrecv μ 6 s0 = true then (jC d 91 [s0, .int s1, .int s2, .int s3, .int s4, .null] μ).bind fun p1 => jR (d + 1) 44 38 [u0, u1, u2, u3] (p1.1.toList ++ []) p1.2 else none) :=
  (l_anull (show gPG 44 34 = some (.aconst_null) by decide +kernel) ).trans <|
  l_callV (u := 1) (v := s0) (as := [.int s1, .int s2, .int s3, .int s4, .null]) (show gPG 44 35 = some (jinvI 1 132) by decide +kernel) (by decide) (cc := 91) (na := 6) (kd := 6) (q4 := 0) (z := 11) (rest := []) (by decide +kernel) (by decide +kernel)  rfl (show (6 : Nat) ≤ 6 by decide) rfl cs0 (by decide +kernel) (cav jr_null (cai (cai (cai (cai (cav hs0 ca0))))))
theorem b44_38 (d : Nat) (μ : jM) (u0 : Value) (u1 : Value) (u2 : Value) (u3 : Value) : jR d 44 38 [u0, u1, u2, u3] [] μ = some (none, μ) :=
  l_ret (show gPG 44 38 = some (.return_) by decide +kernel) (by decide +kernel)
-- Top.chance
theorem b45_0 (d : Nat) (μ : jM) (a : Nat) (i1 : Int32) (i2 : Int32) (i3 : Int32) : jR (d + 1) 45 0 [.ref a, .int i1, .int i2, .int i3, .retAddr 0, .retAddr 0, .retAddr 0] [] μ = (jC d 13 [.int i2, .int 1, .int 8] μ).bind fun p1 => jR (d + 1) 45 7 [.ref a, .int i1, .int i2, .int i3, .retAddr 0, .retAddr 0, .retAddr 0] (p1.1.toList ++ []) p1.2 :=
  (l_iload_n (show gPG 45 0 = some (.iload_n 2) by decide +kernel) rfl).trans <|
  (l_iconst (show gPG 45 1 = some (.iconst 1) by decide +kernel) (c := 1) (by decide +kernel)).trans <|
  (l_bipush (show gPG 45 2 = some (.bipush 8) by decide +kernel) (c := 8) (by decide +kernel)).trans <|
  l_callS (u := 2) (as := [.int i2, .int 1, .int 8]) (show gPG 45 4 = some (jinvI 2 85) by decide +kernel) (by decide) (cc := 13) (na := 3) (q4 := 0) (z := 12) (rest := []) (by decide +kernel) (by decide +kernel)  rfl (show (3 : Nat) ≤ 3 by decide) rfl cs0 (by decide +kernel) (cai (cai (cai ca0))) (fun e => absurd e (by decide))
theorem b45_7 (d : Nat) (μ : jM) (a : Nat) (i1 : Int32) (i2 : Int32) (i3 : Int32) (u4 : Value) (u5 : Value) (u6 : Value) (s0 : Int32) : jR (d + 1) 45 7 [.ref a, .int i1, .int i2, .int i3, u4, u5, u6] [.int s0] μ = (if s0 = 0 then jR (d + 1) 45 19 [.ref a, .int i1, .int i2, .int i3, u4, u5, u6] [] μ else (jC d 13 [.int i3, .int 0, .int 1] μ).bind fun p1 => jR (d + 1) 45 16 [.ref a, .int i1, .int i2, .int i3, u4, u5, u6] (p1.1.toList ++ []) p1.2) :=
  (l_cmp0 (show gPG 45 7 = some (.ifCond .eq 12) by decide +kernel) (t := 19) (by decide +kernel)).trans <| jm_eq.trans <| ite_cg (
  rfl) (
  (l_iload_n (show gPG 45 10 = some (.iload_n 3) by decide +kernel) rfl).trans <|
  (l_iconst (show gPG 45 11 = some (.iconst 0) by decide +kernel) (c := 0) (by decide +kernel)).trans <|
  (l_iconst (show gPG 45 12 = some (.iconst 1) by decide +kernel) (c := 1) (by decide +kernel)).trans <|
  l_callS (u := 2) (as := [.int i3, .int 0, .int 1]) (show gPG 45 13 = some (jinvI 2 85) by decide +kernel) (by decide) (cc := 13) (na := 3) (q4 := 0) (z := 12) (rest := []) (by decide +kernel) (by decide +kernel)  rfl (show (3 : Nat) ≤ 3 by decide) rfl cs0 (by decide +kernel) (cai (cai (cai ca0))) (fun e => absurd e (by decide)))
theorem b45_16 (d : Nat) (μ : jM) (a : Nat) (i1 : Int32) (i2 : Int32) (i3 : Int32) (u4 : Value) (u5 : Value) (u6 : Value) (s0 : Int32) : jR d 45 16 [.ref a, .int i1, .int i2, .int i3, u4, u5, u6] [.int s0] μ = (if s0 = 0 then jR d 45 19 [.ref a, .int i1, .int i2, .int i3, u4, u5, u6] [] μ else jR d 45 28 [.ref a, .int i1, .int i2, .int i3, .int 0, .int 0, u6] [] μ) :=
  (l_cmp0 (show gPG 45 16 = some (.ifCond .ne 6) by decide +kernel) (t := 22) (by decide +kernel)).trans <| jm_ne.trans <| ite_cg (
  rfl) (
  (l_iconst (show gPG 45 22 = some (.iconst 0) by decide +kernel) (c := 0) (by decide +kernel)).trans <|
  (l_istore (show gPG 45 23 = some (.istore 4) by decide +kernel) (ls := [.ref a, .int i1, .int i2, .int i3, u4, u5, u6]) (show (4 : Nat) < 7 by decide) (show _ = ([.ref a, .int i1, .int i2, .int i3, .int 0, u5, u6] : List Value) from rfl)).trans <|
  (l_iconst (show gPG 45 25 = some (.iconst 0) by decide +kernel) (c := 0) (by decide +kernel)).trans <|
  l_istore (show gPG 45 26 = some (.istore 5) by decide +kernel) (ls := [.ref a, .int i1, .int i2, .int i3, .int 0, u5, u6]) (show (5 : Nat) < 7 by decide) (show _ = ([.ref a, .int i1, .int i2, .int i3, .int 0, .int 0, u6] : List Value) from rfl))
theorem b45_19 (d : Nat) (μ : jM) (u0 : Value) (u1 : Value) (u2 : Value) (u3 : Value) (u4 : Value) (u5 : Value) (u6 : Value) : jR d 45 19 [u0, u1, u2, u3, u4, u5, u6] [] μ = some (some (.int (-2)), μ) :=
  (l_bipush (show gPG 45 19 = some (.bipush (-2)) by decide +kernel) (c := (-2)) (by decide +kernel)).trans <|
  l_iret1 (show gPG 45 21 = some (.ireturn) by decide +kernel) (by decide +kernel)
theorem b45_28 (d : Nat) (μ : jM) (a : Nat) (i1 : Int32) (i2 : Int32) (i3 : Int32) (i4 : Int32) (i5 : Int32) (u6 : Value) : jR (d + 1) 45 28 [.ref a, .int i1, .int i2, .int i3, .int i4, .int i5, u6] [] μ = (if i5 < i2 then (if jrecv μ 12 (.ref a) = true then (jC d 42 [.ref a, .int (i1 + i5), .int 3] μ).bind fun p2 => jR (d + 1) 45 43 [.ref a, .int i1, .int i2, .int i3, .int i4, .int i5, u6] (p2.1.toList ++ []) p2.2 else none) else (jC d 46 [.int i3, .int i4, .int i2] μ).bind fun p1 => jR (d + 1) 45 83 [.ref a, .int i1, .int i2, .int i3, .int i4, .int i5, u6] (p1.1.toList ++ []) p1.2) :=
  (l_iload (show gPG 45 28 = some (.iload 5) by decide +kernel) rfl).trans <|
  (l_iload_n (show gPG 45 30 = some (.iload_n 2) by decide +kernel) rfl).trans <|
  (l_cmp (show gPG 45 31 = some (.if_icmp .ge 45) by decide +kernel) (t := 76) (by decide +kernel)).trans <| jm_ge.trans <| ite_cg (
  (l_aload_n (show gPG 45 34 = some (.aload_n 0) by decide +kernel) rfl jr_ref).trans <|
  (l_iload_n (show gPG 45 35 = some (.iload_n 1) by decide +kernel) rfl).trans <|
  (l_iload (show gPG 45 36 = some (.iload 5) by decide +kernel) rfl).trans <|
  (l_iadd (show gPG 45 38 = some (.iadd) by decide +kernel) ).trans <|
  (l_iconst (show gPG 45 39 = some (.iconst 3) by decide +kernel) (c := 3) (by decide +kernel)).trans <|
  l_callV (u := 1) (v := .ref a) (as := [.int (i1 + i5), .int 3]) (show gPG 45 40 = some (jinvI 1 290) by decide +kernel) (by decide) (cc := 42) (na := 3) (kd := 12) (q4 := 0) (z := 10) (rest := []) (by decide +kernel) (by decide +kernel)  rfl (show (3 : Nat) ≤ 3 by decide) rfl cs0 (by decide +kernel) (cai (cai (cav jr_ref ca0)))) (
  (l_iload_n (show gPG 45 76 = some (.iload_n 3) by decide +kernel) rfl).trans <|
  (l_iload (show gPG 45 77 = some (.iload 4) by decide +kernel) rfl).trans <|
  (l_iload_n (show gPG 45 79 = some (.iload_n 2) by decide +kernel) rfl).trans <|
  l_callS (u := 2) (as := [.int i3, .int i4, .int i2]) (show gPG 45 80 = some (jinvI 2 293) by decide +kernel) (by decide) (cc := 46) (na := 3) (q4 := 0) (z := 12) (rest := []) (by decide +kernel) (by decide +kernel)  rfl (show (3 : Nat) ≤ 3 by decide) rfl cs0 (by decide +kernel) (cai (cai (cai ca0))) (fun e => absurd e (by decide)))
theorem b45_43 (d : Nat) (μ : jM) (a : Nat) (i1 : Int32) (i2 : Int32) (i3 : Int32) (i4 : Int32) (i5 : Int32) (u6 : Value) (s0 : Int32) : jR d 45 43 [.ref a, .int i1, .int i2, .int i3, .int i4, .int i5, u6] [.int s0] μ = (if s0 = (-4) then some (some (.int (-4)), μ) else (if s0 = 0 then jR d 45 67 [.ref a, .int i1, .int i2, .int i3, .int i4, .int i5, .int s0] [.int 1, .int i4] μ else jR d 45 67 [.ref a, .int i1, .int i2, .int i3, .int i4, .int i5, .int s0] [.int 0, .int i4] μ)) :=
  (l_istore (show gPG 45 43 = some (.istore 6) by decide +kernel) (ls := [.ref a, .int i1, .int i2, .int i3, .int i4, .int i5, u6]) (show (6 : Nat) < 7 by decide) (show _ = ([.ref a, .int i1, .int i2, .int i3, .int i4, .int i5, .int s0] : List Value) from rfl)).trans <|
  (l_iload (show gPG 45 45 = some (.iload 6) by decide +kernel) rfl).trans <|
  (l_bipush (show gPG 45 47 = some (.bipush (-4)) by decide +kernel) (c := (-4)) (by decide +kernel)).trans <|
  (l_cmp (show gPG 45 49 = some (.if_icmp .ne 6) by decide +kernel) (t := 55) (by decide +kernel)).trans <| jm_ne.trans <| ite_cg (
  (l_bipush (show gPG 45 52 = some (.bipush (-4)) by decide +kernel) (c := (-4)) (by decide +kernel)).trans <|
  l_iret1 (show gPG 45 54 = some (.ireturn) by decide +kernel) (by decide +kernel)) (
  (l_iload (show gPG 45 55 = some (.iload 4) by decide +kernel) rfl).trans <|
  (l_iload (show gPG 45 57 = some (.iload 6) by decide +kernel) rfl).trans <|
  (l_cmp0 (show gPG 45 59 = some (.ifCond .ne 7) by decide +kernel) (t := 66) (by decide +kernel)).trans <| jm_ne.trans <| ite_cg (
  (l_iconst (show gPG 45 62 = some (.iconst 1) by decide +kernel) (c := 1) (by decide +kernel)).trans <|
  l_goto (show gPG 45 63 = some (.goto 4) by decide +kernel) (t := 67) (by decide +kernel)) (
  l_iconst (show gPG 45 66 = some (.iconst 0) by decide +kernel) (c := 0) (by decide +kernel)))
theorem b45_67 (d : Nat) (μ : jM) (a : Nat) (i1 : Int32) (i2 : Int32) (i3 : Int32) (u4 : Value) (i5 : Int32) (u6 : Value) (s0 : Int32) (s1 : Int32) : jR d 45 67 [.ref a, .int i1, .int i2, .int i3, u4, .int i5, u6] [.int s1, .int s0] μ = jR d 45 28 [.ref a, .int i1, .int i2, .int i3, .int (s0 + s1), .int (i5 + 1), u6] [] μ :=
  (l_iadd (show gPG 45 67 = some (.iadd) by decide +kernel) ).trans <|
  (l_istore (show gPG 45 68 = some (.istore 4) by decide +kernel) (ls := [.ref a, .int i1, .int i2, .int i3, u4, .int i5, u6]) (show (4 : Nat) < 7 by decide) (show _ = ([.ref a, .int i1, .int i2, .int i3, .int (s0 + s1), .int i5, u6] : List Value) from rfl)).trans <|
  (l_iinc (show gPG 45 70 = some (.iinc 5 1) by decide +kernel) (c := 1) (by decide +kernel) rfl (show _ = ([.ref a, .int i1, .int i2, .int i3, .int (s0 + s1), .int (i5 + 1), u6] : List Value) from rfl)).trans <|
  l_goto (show gPG 45 73 = some (.goto (-45)) by decide +kernel) (t := 28) (by decide +kernel)
theorem b45_83 (d : Nat) (μ : jM) (u0 : Value) (u1 : Value) (u2 : Value) (u3 : Value) (u4 : Value) (u5 : Value) (u6 : Value) (s0 : Int32) : jR d 45 83 [u0, u1, u2, u3, u4, u5, u6] [.int s0] μ = some (some (.int s0), μ) :=
  l_iret1 (show gPG 45 83 = some (.ireturn) by decide +kernel) (by decide +kernel)
-- Top.inLowestTerms
theorem b46_0 (d : Nat) (μ : jM) (i0 : Int32) (i1 : Int32) (i2 : Int32) : jR d 46 0 [.int i0, .int i1, .int i2, .retAddr 0, .retAddr 0] [] μ = (if i0 = 0 then jR d 46 9 [.int i0, .int i1, .int i2, .retAddr 0, .retAddr 0] [.int i1] μ else jR d 46 9 [.int i0, .int i1, .int i2, .retAddr 0, .retAddr 0] [.int i2] μ) :=
  (l_iload_n (show gPG 46 0 = some (.iload_n 0) by decide +kernel) rfl).trans <|
  (l_cmp0 (show gPG 46 1 = some (.ifCond .ne 7) by decide +kernel) (t := 8) (by decide +kernel)).trans <| jm_ne.trans <| ite_cg (
  (l_iload_n (show gPG 46 4 = some (.iload_n 1) by decide +kernel) rfl).trans <|
  l_goto (show gPG 46 5 = some (.goto 4) by decide +kernel) (t := 9) (by decide +kernel)) (
  l_iload_n (show gPG 46 8 = some (.iload_n 2) by decide +kernel) rfl)
theorem b46_9 (d : Nat) (μ : jM) (u0 : Value) (i1 : Int32) (i2 : Int32) (u3 : Value) (u4 : Value) (s0 : Int32) : jR d 46 9 [u0, .int i1, .int i2, u3, u4] [.int s0] μ = jR d 46 13 [u0, .int i1, .int i2, .int s0, .int i2] [] μ :=
  (l_istore_n (show gPG 46 9 = some (.istore_n 3) by decide +kernel) (ls := [u0, .int i1, .int i2, u3, u4]) (show (3 : Nat) < 5 by decide) (show _ = ([u0, .int i1, .int i2, .int s0, u4] : List Value) from rfl)).trans <|
  (l_iload_n (show gPG 46 10 = some (.iload_n 2) by decide +kernel) rfl).trans <|
  l_istore (show gPG 46 11 = some (.istore 4) by decide +kernel) (ls := [u0, .int i1, .int i2, .int s0, u4]) (show (4 : Nat) < 5 by decide) (show _ = ([u0, .int i1, .int i2, .int s0, .int i2] : List Value) from rfl)
theorem b46_13 (d : Nat) (μ : jM) (u0 : Value) (i1 : Int32) (i2 : Int32) (i3 : Int32) (i4 : Int32) : jR d 46 13 [u0, .int i1, .int i2, .int i3, .int i4] [] μ = (if 1 < i4 then if i4 = 0 then none else (if (i1 - i1 / i4 * i4) = 0 then if i4 = 0 then none else (if (i2 - i2 / i4 * i4) = 0 then if i4 = 0 then none else some (some (.int (i3 / i4)), μ) else jR d 46 38 [u0, .int i1, .int i2, .int i3, .int i4] [] μ) else jR d 46 38 [u0, .int i1, .int i2, .int i3, .int i4] [] μ) else some (some (.int i3), μ)) :=
  (l_iload (show gPG 46 13 = some (.iload 4) by decide +kernel) rfl).trans <|
  (l_iconst (show gPG 46 15 = some (.iconst 1) by decide +kernel) (c := 1) (by decide +kernel)).trans <|
  (l_cmp (show gPG 46 16 = some (.if_icmp .le 28) by decide +kernel) (t := 44) (by decide +kernel)).trans <| jm_le.trans <| ite_cg (
  (l_iload_n (show gPG 46 19 = some (.iload_n 1) by decide +kernel) rfl).trans <|
  (l_iload (show gPG 46 20 = some (.iload 4) by decide +kernel) rfl).trans <|
  (l_irem (show gPG 46 22 = some (.irem) by decide +kernel)).trans <| ite_cg rfl (
  (l_cmp0 (show gPG 46 23 = some (.ifCond .ne 15) by decide +kernel) (t := 38) (by decide +kernel)).trans <| jm_ne.trans <| ite_cg (
  (l_iload_n (show gPG 46 26 = some (.iload_n 2) by decide +kernel) rfl).trans <|
  (l_iload (show gPG 46 27 = some (.iload 4) by decide +kernel) rfl).trans <|
  (l_irem (show gPG 46 29 = some (.irem) by decide +kernel)).trans <| ite_cg rfl (
  (l_cmp0 (show gPG 46 30 = some (.ifCond .ne 8) by decide +kernel) (t := 38) (by decide +kernel)).trans <| jm_ne.trans <| ite_cg (
  (l_iload_n (show gPG 46 33 = some (.iload_n 3) by decide +kernel) rfl).trans <|
  (l_iload (show gPG 46 34 = some (.iload 4) by decide +kernel) rfl).trans <|
  (l_idiv (show gPG 46 36 = some (.idiv) by decide +kernel)).trans <| ite_cg rfl (
  l_iret1 (show gPG 46 37 = some (.ireturn) by decide +kernel) (by decide +kernel))) (
  rfl))) (
  rfl))) (
  (l_iload_n (show gPG 46 44 = some (.iload_n 3) by decide +kernel) rfl).trans <|
  l_iret1 (show gPG 46 45 = some (.ireturn) by decide +kernel) (by decide +kernel))
theorem b46_38 (d : Nat) (μ : jM) (u0 : Value) (i1 : Int32) (i2 : Int32) (i3 : Int32) (i4 : Int32) : jR d 46 38 [u0, .int i1, .int i2, .int i3, .int i4] [] μ = jR d 46 13 [u0, .int i1, .int i2, .int i3, .int (i4 + (-1))] [] μ :=
  (l_iinc (show gPG 46 38 = some (.iinc 4 (-1)) by decide +kernel) (c := (-1)) (by decide +kernel) rfl (show _ = ([u0, .int i1, .int i2, .int i3, .int (i4 + (-1))] : List Value) from rfl)).trans <|
  l_goto (show gPG 46 41 = some (.goto (-28)) by decide +kernel) (t := 13) (by decide +kernel)
-- Top.tells
theorem b47_0 (d : Nat) (μ : jM) (a : Nat) (i1 : Int32) (i2 : Int32) (i3 : Int32) (i4 : Int32) : jR (d + 1) 47 0 [.ref a, .int i1, .int i2, .int i3, .int i4, .retAddr 0] [] μ = (jC d 48 [.int i1] μ).bind fun p1 => jR (d + 1) 47 4 [.ref a, .int i1, .int i2, .int i3, .int i4, .retAddr 0] (p1.1.toList ++ []) p1.2 :=
  (l_iload_n (show gPG 47 0 = some (.iload_n 1) by decide +kernel) rfl).trans <|
  l_callS (u := 2) (as := [.int i1]) (show gPG 47 1 = some (jinvI 2 296) by decide +kernel) (by decide) (cc := 48) (na := 1) (q4 := 0) (z := 12) (rest := []) (by decide +kernel) (by decide +kernel)  rfl (show (1 : Nat) ≤ 1 by decide) rfl cs0 (by decide +kernel) (cai ca0) (fun e => absurd e (by decide))
theorem b47_4 (d : Nat) (μ : jM) (a : Nat) (i1 : Int32) (i2 : Int32) (i3 : Int32) (i4 : Int32) (u5 : Value) (s0 : Int32) : jR (d + 1) 47 4 [.ref a, .int i1, .int i2, .int i3, .int i4, u5] [.int s0] μ = (if s0 = 0 then jR (d + 1) 47 36 [.ref a, .int i1, .int i2, .int i3, .int i4, u5] [] μ else (jC d 32 [.int i3] μ).bind fun p1 => jR (d + 1) 47 11 [.ref a, .int i1, .int i2, .int i3, .int i4, u5] (p1.1.toList ++ []) p1.2) :=
  (l_cmp0 (show gPG 47 4 = some (.ifCond .eq 32) by decide +kernel) (t := 36) (by decide +kernel)).trans <| jm_eq.trans <| ite_cg (
  rfl) (
  (l_iload_n (show gPG 47 7 = some (.iload_n 3) by decide +kernel) rfl).trans <|
  l_callS (u := 2) (as := [.int i3]) (show gPG 47 8 = some (jinvI 2 211) by decide +kernel) (by decide) (cc := 32) (na := 1) (q4 := 0) (z := 12) (rest := []) (by decide +kernel) (by decide +kernel)  rfl (show (1 : Nat) ≤ 1 by decide) rfl cs0 (by decide +kernel) (cai ca0) (fun e => absurd e (by decide)))
theorem b47_11 (d : Nat) (μ : jM) (a : Nat) (i1 : Int32) (i2 : Int32) (i3 : Int32) (i4 : Int32) (u5 : Value) (s0 : Int32) : jR (d + 1) 47 11 [.ref a, .int i1, .int i2, .int i3, .int i4, u5] [.int s0] μ = (if s0 = 0 then jR (d + 1) 47 36 [.ref a, .int i1, .int i2, .int i3, .int i4, u5] [] μ else (jC d 13 [.int i4, .int 0, .int 1] μ).bind fun p1 => jR (d + 1) 47 21 [.ref a, .int i1, .int i2, .int i3, .int i4, u5] (p1.1.toList ++ []) p1.2) :=
  (l_cmp0 (show gPG 47 11 = some (.ifCond .eq 25) by decide +kernel) (t := 36) (by decide +kernel)).trans <| jm_eq.trans <| ite_cg (
  rfl) (
  (l_iload (show gPG 47 14 = some (.iload 4) by decide +kernel) rfl).trans <|
  (l_iconst (show gPG 47 16 = some (.iconst 0) by decide +kernel) (c := 0) (by decide +kernel)).trans <|
  (l_iconst (show gPG 47 17 = some (.iconst 1) by decide +kernel) (c := 1) (by decide +kernel)).trans <|
  l_callS (u := 2) (as := [.int i4, .int 0, .int 1]) (show gPG 47 18 = some (jinvI 2 85) by decide +kernel) (by decide) (cc := 13) (na := 3) (q4 := 0) (z := 12) (rest := []) (by decide +kernel) (by decide +kernel)  rfl (show (3 : Nat) ≤ 3 by decide) rfl cs0 (by decide +kernel) (cai (cai (cai ca0))) (fun e => absurd e (by decide)))
theorem b47_21 (d : Nat) (μ : jM) (a : Nat) (i1 : Int32) (i2 : Int32) (i3 : Int32) (i4 : Int32) (u5 : Value) (s0 : Int32) : jR (d + 1) 47 21 [.ref a, .int i1, .int i2, .int i3, .int i4, u5] [.int s0] μ = (if s0 = 0 then jR (d + 1) 47 36 [.ref a, .int i1, .int i2, .int i3, .int i4, u5] [] μ else (if i4 = 0 then (jC d 18 [.int i2] μ).bind fun p1 => jR (d + 1) 47 33 [.ref a, .int i1, .int i2, .int i3, .int i4, u5] (p1.1.toList ++ []) p1.2 else jR (d + 1) 47 39 [.ref a, .int i1, .int i2, .int i3, .int i4, u5] [] μ)) :=
  (l_cmp0 (show gPG 47 21 = some (.ifCond .eq 15) by decide +kernel) (t := 36) (by decide +kernel)).trans <| jm_eq.trans <| ite_cg (
  rfl) (
  (l_iload (show gPG 47 24 = some (.iload 4) by decide +kernel) rfl).trans <|
  (l_cmp0 (show gPG 47 26 = some (.ifCond .ne 13) by decide +kernel) (t := 39) (by decide +kernel)).trans <| jm_ne.trans <| ite_cg (
  (l_iload_n (show gPG 47 29 = some (.iload_n 2) by decide +kernel) rfl).trans <|
  l_callS (u := 2) (as := [.int i2]) (show gPG 47 30 = some (jinvI 2 175) by decide +kernel) (by decide) (cc := 18) (na := 1) (q4 := 0) (z := 12) (rest := []) (by decide +kernel) (by decide +kernel)  rfl (show (1 : Nat) ≤ 1 by decide) rfl cs0 (by decide +kernel) (cai ca0) (fun e => absurd e (by decide))) (
  rfl))
theorem b47_33 (d : Nat) (μ : jM) (a : Nat) (i1 : Int32) (i2 : Int32) (i3 : Int32) (i4 : Int32) (u5 : Value) (s0 : Int32) : jR d 47 33 [.ref a, .int i1, .int i2, .int i3, .int i4, u5] [.int s0] μ = (if s0 = 0 then jR d 47 36 [.ref a, .int i1, .int i2, .int i3, .int i4, u5] [] μ else jR d 47 39 [.ref a, .int i1, .int i2, .int i3, .int i4, u5] [] μ) :=
  (l_cmp0 (show gPG 47 33 = some (.ifCond .ne 6) by decide +kernel) (t := 39) (by decide +kernel)).trans <| jm_ne.trans <| ite_cg (
  rfl) (
  rfl)
theorem b47_36 (d : Nat) (μ : jM) (u0 : Value) (u1 : Value) (u2 : Value) (u3 : Value) (u4 : Value) (u5 : Value) : jR d 47 36 [u0, u1, u2, u3, u4, u5] [] μ = some (some (.int (-2)), μ) :=
  (l_bipush (show gPG 47 36 = some (.bipush (-2)) by decide +kernel) (c := (-2)) (by decide +kernel)).trans <|
  l_iret1 (show gPG 47 38 = some (.ireturn) by decide +kernel) (by decide +kernel)
theorem b47_39 (d : Nat) (μ : jM) (a : Nat) (i1 : Int32) (i2 : Int32) (i3 : Int32) (i4 : Int32) (u5 : Value) : jR (d + 1) 47 39 [.ref a, .int i1, .int i2, .int i3, .int i4, u5] [] μ = (jgR μ 12 14 (.ref a)).bind fun w1 => (jaR μ w1 i1).bind fun w2 => (if jrecv μ 9 w2 = true then (jC d 125 [w2] μ).bind fun p3 => jR (d + 1) 47 52 [.ref a, .int i1, .int i2, .int i3, .int i4, w2] (p3.1.toList ++ []) p3.2 else none) :=
  (l_aload_n (show gPG 47 39 = some (.aload_n 0) by decide +kernel) rfl jr_ref).trans <|
  (l_gR (show gPG 47 40 = some (.getfield 80) by decide +kernel) (kd := 12) (sl := 14) (tc := 1) (fin := 1) (z := 0) (by decide +kernel) (by decide +kernel) (by decide +kernel)).trans <| bd_cg fun w1 hw1 =>
  (l_iload_n (show gPG 47 43 = some (.iload_n 1) by decide +kernel) rfl).trans <|
  (l_aald (show gPG 47 44 = some (.aaload) by decide +kernel) ).trans <| bd_cg fun w2 hw2 =>
  (l_astore (show gPG 47 45 = some (.astore 5) by decide +kernel) (ls := [.ref a, .int i1, .int i2, .int i3, .int i4, u5]) (jr_aR hw2) (show (5 : Nat) < 6 by decide) (show _ = ([.ref a, .int i1, .int i2, .int i3, .int i4, w2] : List Value) from rfl)).trans <|
  (l_aload (show gPG 47 47 = some (.aload 5) by decide +kernel) rfl (jr_aR hw2)).trans <|
  l_callV (u := 1) (v := w2) (as := []) (show gPG 47 49 = some (jinvI 1 299) by decide +kernel) (by decide) (cc := 125) (na := 1) (kd := 9) (q4 := 0) (z := 11) (rest := []) (by decide +kernel) (by decide +kernel)  rfl (show (1 : Nat) ≤ 1 by decide) rfl cs0 (by decide +kernel) (cav (jr_aR hw2) ca0)
theorem b47_52 (d : Nat) (μ : jM) (a : Nat) (u1 : Value) (i2 : Int32) (i3 : Int32) (i4 : Int32) (r5 : Value) (s0 : Int32) (h5 : jisref r5 = true) : jR (d + 1) 47 52 [.ref a, u1, .int i2, .int i3, .int i4, r5] [.int s0] μ = (if s0 = 0 then (jgI μ 9 1 r5).bind fun x1 => (if 8 < x1 then some (some (.int (-2)), μ) else (if i4 = 0 then (jgR μ 12 0 (.ref a)).bind fun w3 => (if jrecv μ 3 w3 = true then (jC d 69 [w3, .int i2] μ).bind fun p4 => jR (d + 1) 47 87 [.ref a, u1, .int i2, .int i3, .int i4, r5] (p4.1.toList ++ [r5, .ref a]) p4.2 else none) else (if jrecv μ 12 (.ref a) = true then (jC d 50 [.ref a, r5, .int i3] μ).bind fun p2 => jR (d + 1) 47 101 [.ref a, u1, .int i2, .int i3, .int i4, r5] (p2.1.toList ++ []) p2.2 else none))) else some (some (.int (-11)), μ)) :=
  (l_cmp0 (show gPG 47 52 = some (.ifCond .eq 6) by decide +kernel) (t := 58) (by decide +kernel)).trans <| jm_eq.trans <| ite_cg (
  (l_aload (show gPG 47 58 = some (.aload 5) by decide +kernel) rfl h5).trans <|
  (l_gI (show gPG 47 60 = some (.getfield 302) by decide +kernel) (kd := 9) (sl := 1) (tc := 0) (fin := 0) (z := 1) (by decide +kernel) (by decide +kernel) (by decide +kernel)).trans <| bd_cg fun x1 hx1 =>
  (l_bipush (show gPG 47 63 = some (.bipush 8) by decide +kernel) (c := 8) (by decide +kernel)).trans <|
  (l_cmp (show gPG 47 65 = some (.if_icmp .le 6) by decide +kernel) (t := 71) (by decide +kernel)).trans <| jm_le.trans <| ite_cg (
  (l_bipush (show gPG 47 68 = some (.bipush (-2)) by decide +kernel) (c := (-2)) (by decide +kernel)).trans <|
  l_iret1 (show gPG 47 70 = some (.ireturn) by decide +kernel) (by decide +kernel)) (
  (l_iload (show gPG 47 71 = some (.iload 4) by decide +kernel) rfl).trans <|
  (l_cmp0 (show gPG 47 73 = some (.ifCond .ne 21) by decide +kernel) (t := 94) (by decide +kernel)).trans <| jm_ne.trans <| ite_cg (
  (l_aload_n (show gPG 47 76 = some (.aload_n 0) by decide +kernel) rfl jr_ref).trans <|
  (l_aload (show gPG 47 77 = some (.aload 5) by decide +kernel) rfl h5).trans <|
  (l_aload_n (show gPG 47 79 = some (.aload_n 0) by decide +kernel) rfl jr_ref).trans <|
  (l_gR (show gPG 47 80 = some (.getfield 14) by decide +kernel) (kd := 12) (sl := 0) (tc := 1) (fin := 1) (z := 0) (by decide +kernel) (by decide +kernel) (by decide +kernel)).trans <| bd_cg fun w3 hw3 =>
  (l_iload_n (show gPG 47 83 = some (.iload_n 2) by decide +kernel) rfl).trans <|
  l_callV (u := 1) (v := w3) (as := [.int i2]) (show gPG 47 84 = some (jinvI 1 104) by decide +kernel) (by decide) (cc := 69) (na := 2) (kd := 3) (q4 := 0) (z := 11) (rest := [r5, .ref a]) (by decide +kernel) (by decide +kernel)  rfl (show (2 : Nat) ≤ 4 by decide) rfl (csv h5 (csv jr_ref cs0)) (by decide +kernel) (cai (cav (jr_gR hw3) ca0))) (
  (l_aload_n (show gPG 47 94 = some (.aload_n 0) by decide +kernel) rfl jr_ref).trans <|
  (l_aload (show gPG 47 95 = some (.aload 5) by decide +kernel) rfl h5).trans <|
  (l_iload_n (show gPG 47 97 = some (.iload_n 3) by decide +kernel) rfl).trans <|
  l_callV (u := 1) (v := .ref a) (as := [r5, .int i3]) (show gPG 47 98 = some (jinvI 1 307) by decide +kernel) (by decide) (cc := 50) (na := 3) (kd := 12) (q4 := 0) (z := 10) (rest := []) (by decide +kernel) (by decide +kernel)  rfl (show (3 : Nat) ≤ 3 by decide) rfl cs0 (by decide +kernel) (cai (cav h5 (cav jr_ref ca0)))))) (
  (l_bipush (show gPG 47 55 = some (.bipush (-11)) by decide +kernel) (c := (-11)) (by decide +kernel)).trans <|
  l_iret1 (show gPG 47 57 = some (.ireturn) by decide +kernel) (by decide +kernel))
theorem b47_87 (d : Nat) (μ : jM) (u0 : Value) (u1 : Value) (u2 : Value) (i3 : Int32) (u4 : Value) (u5 : Value) (s0 : Value) (s1 : Value) (s2 : Value) (hs0 : jisref s0 = true) (hs1 : jisref s1 = true) (hs2 : jisref s2 = true) : jR (d + 1) 47 87 [u0, u1, u2, .int i3, u4, u5] [s2, s1, s0] μ = (if jrecv μ 12 s0 = true then (jC d 49 [s0, s1, s2, .int i3] μ).bind fun p1 => jR (d + 1) 47 91 [u0, u1, u2, .int i3, u4, u5] (p1.1.toList ++ []) p1.2 else none) :=
  (l_iload_n (show gPG 47 87 = some (.iload_n 3) by decide +kernel) rfl).trans <|
  l_callV (u := 1) (v := s0) (as := [s1, s2, .int i3]) (show gPG 47 88 = some (jinvI 1 303) by decide +kernel) (by decide) (cc := 49) (na := 4) (kd := 12) (q4 := 0) (z := 10) (rest := []) (by decide +kernel) (by decide +kernel)  rfl (show (4 : Nat) ≤ 4 by decide) rfl cs0 (by decide +kernel) (cai (cav hs2 (cav hs1 (cav hs0 ca0))))
theorem b47_91 (d : Nat) (μ : jM) (u0 : Value) (u1 : Value) (u2 : Value) (u3 : Value) (u4 : Value) (u5 : Value) (s0 : Int32) : jR d 47 91 [u0, u1, u2, u3, u4, u5] [.int s0] μ = jR d 47 101 [u0, u1, u2, u3, u4, u5] [.int s0] μ :=
  l_goto (show gPG 47 91 = some (.goto 10) by decide +kernel) (t := 101) (by decide +kernel)
theorem b47_101 (d : Nat) (μ : jM) (u0 : Value) (u1 : Value) (u2 : Value) (u3 : Value) (u4 : Value) (u5 : Value) (s0 : Int32) : jR d 47 101 [u0, u1, u2, u3, u4, u5] [.int s0] μ = some (some (.int s0), μ) :=
  l_iret1 (show gPG 47 101 = some (.ireturn) by decide +kernel) (by decide +kernel)
-- Top.isSheet
theorem b48_0 (d : Nat) (μ : jM) (i0 : Int32) : jR d 48 0 [.int i0] [] μ = (if i0 < 0 then jR d 48 13 [.int i0] [] μ else (if i0 < 4 then jR d 48 14 [.int i0] [.int 1] μ else jR d 48 13 [.int i0] [] μ)) :=
  (l_iload_n (show gPG 48 0 = some (.iload_n 0) by decide +kernel) rfl).trans <|
  (l_cmp0 (show gPG 48 1 = some (.ifCond .lt 12) by decide +kernel) (t := 13) (by decide +kernel)).trans <| jm_lt.trans <| ite_cg (
  rfl) (
  (l_iload_n (show gPG 48 4 = some (.iload_n 0) by decide +kernel) rfl).trans <|
  (l_iconst (show gPG 48 5 = some (.iconst 4) by decide +kernel) (c := 4) (by decide +kernel)).trans <|
  (l_cmp (show gPG 48 6 = some (.if_icmp .ge 7) by decide +kernel) (t := 13) (by decide +kernel)).trans <| jm_ge.trans <| ite_cg (
  (l_iconst (show gPG 48 9 = some (.iconst 1) by decide +kernel) (c := 1) (by decide +kernel)).trans <|
  l_goto (show gPG 48 10 = some (.goto 4) by decide +kernel) (t := 14) (by decide +kernel)) (
  rfl))
theorem b48_13 (d : Nat) (μ : jM) (u0 : Value) : jR d 48 13 [u0] [] μ = jR d 48 14 [u0] [.int 0] μ :=
  l_iconst (show gPG 48 13 = some (.iconst 0) by decide +kernel) (c := 0) (by decide +kernel)
theorem b48_14 (d : Nat) (μ : jM) (u0 : Value) (s0 : Int32) : jR d 48 14 [u0] [.int s0] μ = (if jrf 4 s0 = true then some (some (.int s0), μ) else none) :=
  l_iret (show gPG 48 14 = some (.ireturn) by decide +kernel) (rc := 4) (by decide +kernel)
-- Top.firstOtherwise
theorem b49_0 (d : Nat) (μ : jM) (a : Nat) (r1 : Value) (r2 : Value) (i3 : Int32) (h1 : jisref r1 = true) (h2 : jisref r2 = true) : jR (d + 1) 49 0 [.ref a, r1, r2, .int i3, .retAddr 0, .retAddr 0, .retAddr 0] [] μ = (jgI μ 9 1 r1).bind fun x1 => (jgI μ 6 0 r2).bind fun x2 => (jC d 279 [.int x1, .int x2] μ).bind fun p3 => jR (d + 1) 49 11 [.ref a, r1, r2, .int i3, .retAddr 0, .retAddr 0, .retAddr 0] (p3.1.toList ++ []) p3.2 :=
  (l_aload_n (show gPG 49 0 = some (.aload_n 1) by decide +kernel) rfl h1).trans <|
  (l_gI (show gPG 49 1 = some (.getfield 302) by decide +kernel) (kd := 9) (sl := 1) (tc := 0) (fin := 0) (z := 1) (by decide +kernel) (by decide +kernel) (by decide +kernel)).trans <| bd_cg fun x1 hx1 =>
  (l_aload_n (show gPG 49 4 = some (.aload_n 2) by decide +kernel) rfl h2).trans <|
  (l_gI (show gPG 49 5 = some (.getfield 139) by decide +kernel) (kd := 6) (sl := 0) (tc := 0) (fin := 0) (z := 1) (by decide +kernel) (by decide +kernel) (by decide +kernel)).trans <| bd_cg fun x2 hx2 =>
  l_callS (u := 2) (as := [.int x1, .int x2]) (show gPG 49 8 = some (jinvI 2 354) by decide +kernel) (by decide) (cc := 279) (na := 2) (q4 := 0) (z := 12) (rest := []) (by decide +kernel) (by decide +kernel)  rfl (show (2 : Nat) ≤ 2 by decide) rfl cs0 (by decide +kernel) (cai (cai ca0)) (fun e => absurd e (by decide))
theorem b49_11 (d : Nat) (μ : jM) (a : Nat) (r1 : Value) (r2 : Value) (i3 : Int32) (u4 : Value) (u5 : Value) (u6 : Value) (s0 : Int32) (h1 : jisref r1 = true) (h2 : jisref r2 = true) : jR d 49 11 [.ref a, r1, r2, .int i3, u4, u5, u6] [.int s0] μ = jR d 49 16 [.ref a, r1, r2, .int i3, .int s0, .int 0, u6] [] μ :=
  (l_istore (show gPG 49 11 = some (.istore 4) by decide +kernel) (ls := [.ref a, r1, r2, .int i3, u4, u5, u6]) (show (4 : Nat) < 7 by decide) (show _ = ([.ref a, r1, r2, .int i3, .int s0, u5, u6] : List Value) from rfl)).trans <|
  (l_iconst (show gPG 49 13 = some (.iconst 0) by decide +kernel) (c := 0) (by decide +kernel)).trans <|
  l_istore (show gPG 49 14 = some (.istore 5) by decide +kernel) (ls := [.ref a, r1, r2, .int i3, .int s0, u5, u6]) (show (5 : Nat) < 7 by decide) (show _ = ([.ref a, r1, r2, .int i3, .int s0, .int 0, u6] : List Value) from rfl)
theorem b49_16 (d : Nat) (μ : jM) (a : Nat) (r1 : Value) (r2 : Value) (i3 : Int32) (i4 : Int32) (i5 : Int32) (u6 : Value) (h1 : jisref r1 = true) (h2 : jisref r2 = true) : jR (d + 1) 49 16 [.ref a, r1, r2, .int i3, .int i4, .int i5, u6] [] μ = (if i5 < i4 then (jgR μ 12 5 (.ref a)).bind fun w3 => (if jrecv μ 2 w3 = true then (jC d 59 [w3, r2, .int i5, .int i3] μ).bind fun p4 => jR (d + 1) 49 34 [.ref a, r1, r2, .int i3, .int i4, .int i5, u6] (p4.1.toList ++ []) p4.2 else none) else (jgI μ 9 1 r1).bind fun x1 => (jgI μ 6 0 r2).bind fun x2 => (if x1 = x2 then jR (d + 1) 49 84 [.ref a, r1, r2, .int i3, .int i4, .int i5, u6] [.int (-1)] μ else jR (d + 1) 49 84 [.ref a, r1, r2, .int i3, .int i4, .int i5, u6] [.int i4] μ)) :=
  (l_iload (show gPG 49 16 = some (.iload 5) by decide +kernel) rfl).trans <|
  (l_iload (show gPG 49 18 = some (.iload 4) by decide +kernel) rfl).trans <|
  (l_cmp (show gPG 49 20 = some (.if_icmp .ge 47) by decide +kernel) (t := 67) (by decide +kernel)).trans <| jm_ge.trans <| ite_cg (
  (l_aload_n (show gPG 49 23 = some (.aload_n 0) by decide +kernel) rfl jr_ref).trans <|
  (l_gR (show gPG 49 24 = some (.getfield 40) by decide +kernel) (kd := 12) (sl := 5) (tc := 1) (fin := 1) (z := 0) (by decide +kernel) (by decide +kernel) (by decide +kernel)).trans <| bd_cg fun w3 hw3 =>
  (l_aload_n (show gPG 49 27 = some (.aload_n 2) by decide +kernel) rfl h2).trans <|
  (l_iload (show gPG 49 28 = some (.iload 5) by decide +kernel) rfl).trans <|
  (l_iload_n (show gPG 49 30 = some (.iload_n 3) by decide +kernel) rfl).trans <|
  l_callV (u := 1) (v := w3) (as := [r2, .int i5, .int i3]) (show gPG 49 31 = some (jinvI 1 188) by decide +kernel) (by decide) (cc := 59) (na := 4) (kd := 2) (q4 := 0) (z := 11) (rest := []) (by decide +kernel) (by decide +kernel)  rfl (show (4 : Nat) ≤ 4 by decide) rfl cs0 (by decide +kernel) (cai (cai (cav h2 (cav (jr_gR hw3) ca0))))) (
  (l_aload_n (show gPG 49 67 = some (.aload_n 1) by decide +kernel) rfl h1).trans <|
  (l_gI (show gPG 49 68 = some (.getfield 302) by decide +kernel) (kd := 9) (sl := 1) (tc := 0) (fin := 0) (z := 1) (by decide +kernel) (by decide +kernel) (by decide +kernel)).trans <| bd_cg fun x1 hx1 =>
  (l_aload_n (show gPG 49 71 = some (.aload_n 2) by decide +kernel) rfl h2).trans <|
  (l_gI (show gPG 49 72 = some (.getfield 139) by decide +kernel) (kd := 6) (sl := 0) (tc := 0) (fin := 0) (z := 1) (by decide +kernel) (by decide +kernel) (by decide +kernel)).trans <| bd_cg fun x2 hx2 =>
  (l_cmp (show gPG 49 75 = some (.if_icmp .ne 7) by decide +kernel) (t := 82) (by decide +kernel)).trans <| jm_ne.trans <| ite_cg (
  (l_iconst (show gPG 49 78 = some (.iconst (-1)) by decide +kernel) (c := (-1)) (by decide +kernel)).trans <|
  l_goto (show gPG 49 79 = some (.goto 5) by decide +kernel) (t := 84) (by decide +kernel)) (
  l_iload (show gPG 49 82 = some (.iload 4) by decide +kernel) rfl))
theorem b49_34 (d : Nat) (μ : jM) (a : Nat) (r1 : Value) (r2 : Value) (i3 : Int32) (i4 : Int32) (i5 : Int32) (u6 : Value) (s0 : Int32) (h1 : jisref r1 = true) (h2 : jisref r2 = true) : jR d 49 34 [.ref a, r1, r2, .int i3, .int i4, .int i5, u6] [.int s0] μ = (jgR μ 12 5 (.ref a)).bind fun w1 => (jgI μ 2 1 w1).bind fun x2 => (if x2 = 0 then (jgR μ 9 2 r1).bind fun w3 => (jaI μ w3 i5).bind fun x4 => (if s0 = x4 then jR d 49 16 [.ref a, r1, r2, .int i3, .int i4, .int (i5 + 1), .int s0] [] μ else jR d 49 58 [.ref a, r1, r2, .int i3, .int i4, .int i5, .int s0] [] μ) else jR d 49 58 [.ref a, r1, r2, .int i3, .int i4, .int i5, .int s0] [] μ) :=
  (l_istore (show gPG 49 34 = some (.istore 6) by decide +kernel) (ls := [.ref a, r1, r2, .int i3, .int i4, .int i5, u6]) (show (6 : Nat) < 7 by decide) (show _ = ([.ref a, r1, r2, .int i3, .int i4, .int i5, .int s0] : List Value) from rfl)).trans <|
  (l_aload_n (show gPG 49 36 = some (.aload_n 0) by decide +kernel) rfl jr_ref).trans <|
  (l_gR (show gPG 49 37 = some (.getfield 40) by decide +kernel) (kd := 12) (sl := 5) (tc := 1) (fin := 1) (z := 0) (by decide +kernel) (by decide +kernel) (by decide +kernel)).trans <| bd_cg fun w1 hw1 =>
  (l_gI (show gPG 49 40 = some (.getfield 192) by decide +kernel) (kd := 2) (sl := 1) (tc := 0) (fin := 0) (z := 1) (by decide +kernel) (by decide +kernel) (by decide +kernel)).trans <| bd_cg fun x2 hx2 =>
  (l_cmp0 (show gPG 49 43 = some (.ifCond .ne 15) by decide +kernel) (t := 58) (by decide +kernel)).trans <| jm_ne.trans <| ite_cg (
  (l_iload (show gPG 49 46 = some (.iload 6) by decide +kernel) rfl).trans <|
  (l_aload_n (show gPG 49 48 = some (.aload_n 1) by decide +kernel) rfl h1).trans <|
  (l_gR (show gPG 49 49 = some (.getfield 328) by decide +kernel) (kd := 9) (sl := 2) (tc := 1) (fin := 1) (z := 1) (by decide +kernel) (by decide +kernel) (by decide +kernel)).trans <| bd_cg fun w3 hw3 =>
  (l_iload (show gPG 49 52 = some (.iload 5) by decide +kernel) rfl).trans <|
  (l_iald (show gPG 49 54 = some (.iaload) by decide +kernel) ).trans <| bd_cg fun x4 hx4 =>
  (l_cmp (show gPG 49 55 = some (.if_icmp .eq 6) by decide +kernel) (t := 61) (by decide +kernel)).trans <| jm_eq.trans <| ite_cg (
  (l_iinc (show gPG 49 61 = some (.iinc 5 1) by decide +kernel) (c := 1) (by decide +kernel) rfl (show _ = ([.ref a, r1, r2, .int i3, .int i4, .int (i5 + 1), .int s0] : List Value) from rfl)).trans <|
  l_goto (show gPG 49 64 = some (.goto (-48)) by decide +kernel) (t := 16) (by decide +kernel)) (
  rfl)) (
  rfl)
theorem b49_58 (d : Nat) (μ : jM) (u0 : Value) (u1 : Value) (u2 : Value) (u3 : Value) (u4 : Value) (i5 : Int32) (u6 : Value) : jR d 49 58 [u0, u1, u2, u3, u4, .int i5, u6] [] μ = some (some (.int i5), μ) :=
  (l_iload (show gPG 49 58 = some (.iload 5) by decide +kernel) rfl).trans <|
  l_iret1 (show gPG 49 60 = some (.ireturn) by decide +kernel) (by decide +kernel)
theorem b49_84 (d : Nat) (μ : jM) (u0 : Value) (u1 : Value) (u2 : Value) (u3 : Value) (u4 : Value) (u5 : Value) (u6 : Value) (s0 : Int32) : jR d 49 84 [u0, u1, u2, u3, u4, u5, u6] [.int s0] μ = some (some (.int s0), μ) :=
  l_iret1 (show gPG 49 84 = some (.ireturn) by decide +kernel) (by decide +kernel)
-- Top.rulesTold
theorem b50_0 (d : Nat) (μ : jM) (a : Nat) (r1 : Value) (i2 : Int32) (h1 : jisref r1 = true) : jR (d + 1) 50 0 [.ref a, r1, .int i2, .retAddr 0, .retAddr 0] [] μ = (jgR μ 12 12 (.ref a)).bind fun w1 => (jgR μ 12 0 (.ref a)).bind fun w2 => (jgR μ 3 4 w2).bind fun w3 => (if jrecv μ 8 w1 = true then (jC d 123 [w1, w3] μ).bind fun p4 => jR (d + 1) 50 16 [.ref a, r1, .int i2, .int 0, .retAddr 0] (p4.1.toList ++ []) p4.2 else none) :=
  (l_iconst (show gPG 50 0 = some (.iconst 0) by decide +kernel) (c := 0) (by decide +kernel)).trans <|
  (l_istore_n (show gPG 50 1 = some (.istore_n 3) by decide +kernel) (ls := [.ref a, r1, .int i2, .retAddr 0, .retAddr 0]) (show (3 : Nat) < 5 by decide) (show _ = ([.ref a, r1, .int i2, .int 0, .retAddr 0] : List Value) from rfl)).trans <|
  (l_aload_n (show gPG 50 2 = some (.aload_n 0) by decide +kernel) rfl jr_ref).trans <|
  (l_gR (show gPG 50 3 = some (.getfield 74) by decide +kernel) (kd := 12) (sl := 12) (tc := 1) (fin := 1) (z := 0) (by decide +kernel) (by decide +kernel) (by decide +kernel)).trans <| bd_cg fun w1 hw1 =>
  (l_aload_n (show gPG 50 6 = some (.aload_n 0) by decide +kernel) rfl jr_ref).trans <|
  (l_gR (show gPG 50 7 = some (.getfield 14) by decide +kernel) (kd := 12) (sl := 0) (tc := 1) (fin := 1) (z := 0) (by decide +kernel) (by decide +kernel) (by decide +kernel)).trans <| bd_cg fun w2 hw2 =>
  (l_gR (show gPG 50 10 = some (.getfield 217) by decide +kernel) (kd := 3) (sl := 4) (tc := 1) (fin := 1) (z := 1) (by decide +kernel) (by decide +kernel) (by decide +kernel)).trans <| bd_cg fun w3 hw3 =>
  l_callV (u := 1) (v := w1) (as := [w3]) (show gPG 50 13 = some (jinvI 1 359) by decide +kernel) (by decide) (cc := 123) (na := 2) (kd := 8) (q4 := 0) (z := 11) (rest := []) (by decide +kernel) (by decide +kernel)  rfl (show (2 : Nat) ≤ 2 by decide) rfl cs0 (by decide +kernel) (cav (jr_gR hw3) (cav (jr_gR hw1) ca0))
theorem b50_16 (d : Nat) (μ : jM) (a : Nat) (r1 : Value) (i2 : Int32) (i3 : Int32) (u4 : Value) (h1 : jisref r1 = true) : jR d 50 16 [.ref a, r1, .int i2, .int i3, u4] [] μ = jR d 50 19 [.ref a, r1, .int i2, .int i3, .int 0] [] μ :=
  (l_iconst (show gPG 50 16 = some (.iconst 0) by decide +kernel) (c := 0) (by decide +kernel)).trans <|
  l_istore (show gPG 50 17 = some (.istore 4) by decide +kernel) (ls := [.ref a, r1, .int i2, .int i3, u4]) (show (4 : Nat) < 5 by decide) (show _ = ([.ref a, r1, .int i2, .int i3, .int 0] : List Value) from rfl)
theorem b50_19 (d : Nat) (μ : jM) (a : Nat) (r1 : Value) (i2 : Int32) (i3 : Int32) (i4 : Int32) (h1 : jisref r1 = true) : jR (d + 1) 50 19 [.ref a, r1, .int i2, .int i3, .int i4] [] μ = (if i4 < 6 then (jgR μ 12 12 (.ref a)).bind fun w1 => (jgR μ 8 0 w1).bind fun w2 => (jsI μ w2 i2 i4).bind fun m3 => (jgR m3 12 8 (.ref a)).bind fun w4 => (jgR m3 12 0 (.ref a)).bind fun w5 => (jgR m3 3 0 w5).bind fun w6 => (jgR m3 12 0 (.ref a)).bind fun w7 => (jgR m3 3 1 w7).bind fun w8 => (jgR m3 12 0 (.ref a)).bind fun w9 => (jgR m3 3 2 w9).bind fun w10 => (jgR m3 12 12 (.ref a)).bind fun w11 => (if jrecv m3 7 w4 = true then (jC d 112 [w4, w6, w8, w10, w11] m3).bind fun p12 => jR (d + 1) 50 69 [.ref a, r1, .int i2, .int i3, .int i4] (p12.1.toList ++ []) p12.2 else none) else some (some (.int i3), μ)) :=
  (l_iload (show gPG 50 19 = some (.iload 4) by decide +kernel) rfl).trans <|
  (l_bipush (show gPG 50 21 = some (.bipush 6) by decide +kernel) (c := 6) (by decide +kernel)).trans <|
  (l_cmp (show gPG 50 23 = some (.if_icmp .ge 82) by decide +kernel) (t := 105) (by decide +kernel)).trans <| jm_ge.trans <| ite_cg (
  (l_aload_n (show gPG 50 26 = some (.aload_n 0) by decide +kernel) rfl jr_ref).trans <|
  (l_gR (show gPG 50 27 = some (.getfield 74) by decide +kernel) (kd := 12) (sl := 12) (tc := 1) (fin := 1) (z := 0) (by decide +kernel) (by decide +kernel) (by decide +kernel)).trans <| bd_cg fun w1 hw1 =>
  (l_gR (show gPG 50 30 = some (.getfield 220) by decide +kernel) (kd := 8) (sl := 0) (tc := 1) (fin := 1) (z := 1) (by decide +kernel) (by decide +kernel) (by decide +kernel)).trans <| bd_cg fun w2 hw2 =>
  (l_iload_n (show gPG 50 33 = some (.iload_n 2) by decide +kernel) rfl).trans <|
  (l_iload (show gPG 50 34 = some (.iload 4) by decide +kernel) rfl).trans <|
  (l_iast (show gPG 50 36 = some (.iastore) by decide +kernel) ).trans <| bd_cg fun m3 hm3 =>
  (l_aload_n (show gPG 50 37 = some (.aload_n 0) by decide +kernel) rfl jr_ref).trans <|
  (l_gR (show gPG 50 38 = some (.getfield 54) by decide +kernel) (kd := 12) (sl := 8) (tc := 1) (fin := 1) (z := 0) (by decide +kernel) (by decide +kernel) (by decide +kernel)).trans <| bd_cg fun w4 hw4 =>
  (l_aload_n (show gPG 50 41 = some (.aload_n 0) by decide +kernel) rfl jr_ref).trans <|
  (l_gR (show gPG 50 42 = some (.getfield 14) by decide +kernel) (kd := 12) (sl := 0) (tc := 1) (fin := 1) (z := 0) (by decide +kernel) (by decide +kernel) (by decide +kernel)).trans <| bd_cg fun w5 hw5 =>
  (l_gR (show gPG 50 45 = some (.getfield 230) by decide +kernel) (kd := 3) (sl := 0) (tc := 1) (fin := 1) (z := 1) (by decide +kernel) (by decide +kernel) (by decide +kernel)).trans <| bd_cg fun w6 hw6 =>
  (l_aload_n (show gPG 50 48 = some (.aload_n 0) by decide +kernel) rfl jr_ref).trans <|
  (l_gR (show gPG 50 49 = some (.getfield 14) by decide +kernel) (kd := 12) (sl := 0) (tc := 1) (fin := 1) (z := 0) (by decide +kernel) (by decide +kernel) (by decide +kernel)).trans <| bd_cg fun w7 hw7 =>
  (l_gR (show gPG 50 52 = some (.getfield 233) by decide +kernel) (kd := 3) (sl := 1) (tc := 1) (fin := 1) (z := 1) (by decide +kernel) (by decide +kernel) (by decide +kernel)).trans <| bd_cg fun w8 hw8 =>
  (l_aload_n (show gPG 50 55 = some (.aload_n 0) by decide +kernel) rfl jr_ref).trans <|
  (l_gR (show gPG 50 56 = some (.getfield 14) by decide +kernel) (kd := 12) (sl := 0) (tc := 1) (fin := 1) (z := 0) (by decide +kernel) (by decide +kernel) (by decide +kernel)).trans <| bd_cg fun w9 hw9 =>
  (l_gR (show gPG 50 59 = some (.getfield 236) by decide +kernel) (kd := 3) (sl := 2) (tc := 1) (fin := 1) (z := 1) (by decide +kernel) (by decide +kernel) (by decide +kernel)).trans <| bd_cg fun w10 hw10 =>
  (l_aload_n (show gPG 50 62 = some (.aload_n 0) by decide +kernel) rfl jr_ref).trans <|
  (l_gR (show gPG 50 63 = some (.getfield 74) by decide +kernel) (kd := 12) (sl := 12) (tc := 1) (fin := 1) (z := 0) (by decide +kernel) (by decide +kernel) (by decide +kernel)).trans <| bd_cg fun w11 hw11 =>
  l_callV (u := 1) (v := w4) (as := [w6, w8, w10, w11]) (show gPG 50 66 = some (jinvI 1 239) by decide +kernel) (by decide) (cc := 112) (na := 5) (kd := 7) (q4 := 0) (z := 11) (rest := []) (by decide +kernel) (by decide +kernel)  rfl (show (5 : Nat) ≤ 5 by decide) rfl cs0 (by decide +kernel) (cav (jr_gR hw11) (cav (jr_gR hw10) (cav (jr_gR hw8) (cav (jr_gR hw6) (cav (jr_gR hw4) ca0)))))) (
  (l_iload_n (show gPG 50 105 = some (.iload_n 3) by decide +kernel) rfl).trans <|
  l_iret1 (show gPG 50 106 = some (.ireturn) by decide +kernel) (by decide +kernel))
theorem b50_69 (d : Nat) (μ : jM) (a : Nat) (r1 : Value) (i2 : Int32) (i3 : Int32) (i4 : Int32) (s0 : Int32) (h1 : jisref r1 = true) : jR (d + 1) 50 69 [.ref a, r1, .int i2, .int i3, .int i4] [.int s0] μ = (if s0 = 0 then some (some (.int (-4)), μ) else (jgR μ 12 8 (.ref a)).bind fun w1 => (jgR μ 7 0 w1).bind fun w2 => (if jrecv μ 12 (.ref a) = true then (jC d 49 [.ref a, r1, w2, .int i2] μ).bind fun p3 => jR (d + 1) 50 88 [.ref a, r1, .int i2, .int i3, .int i4] (p3.1.toList ++ []) p3.2 else none)) :=
  (l_cmp0 (show gPG 50 69 = some (.ifCond .ne 6) by decide +kernel) (t := 75) (by decide +kernel)).trans <| jm_ne.trans <| ite_cg (
  (l_bipush (show gPG 50 72 = some (.bipush (-4)) by decide +kernel) (c := (-4)) (by decide +kernel)).trans <|
  l_iret1 (show gPG 50 74 = some (.ireturn) by decide +kernel) (by decide +kernel)) (
  (l_aload_n (show gPG 50 75 = some (.aload_n 0) by decide +kernel) rfl jr_ref).trans <|
  (l_aload_n (show gPG 50 76 = some (.aload_n 1) by decide +kernel) rfl h1).trans <|
  (l_aload_n (show gPG 50 77 = some (.aload_n 0) by decide +kernel) rfl jr_ref).trans <|
  (l_gR (show gPG 50 78 = some (.getfield 54) by decide +kernel) (kd := 12) (sl := 8) (tc := 1) (fin := 1) (z := 0) (by decide +kernel) (by decide +kernel) (by decide +kernel)).trans <| bd_cg fun w1 hw1 =>
  (l_gR (show gPG 50 81 = some (.getfield 246) by decide +kernel) (kd := 7) (sl := 0) (tc := 1) (fin := 1) (z := 1) (by decide +kernel) (by decide +kernel) (by decide +kernel)).trans <| bd_cg fun w2 hw2 =>
  (l_iload_n (show gPG 50 84 = some (.iload_n 2) by decide +kernel) rfl).trans <|
  l_callV (u := 1) (v := .ref a) (as := [r1, w2, .int i2]) (show gPG 50 85 = some (jinvI 1 303) by decide +kernel) (by decide) (cc := 49) (na := 4) (kd := 12) (q4 := 0) (z := 10) (rest := []) (by decide +kernel) (by decide +kernel)  rfl (show (4 : Nat) ≤ 4 by decide) rfl cs0 (by decide +kernel) (cai (cav (jr_gR hw2) (cav h1 (cav jr_ref ca0)))))
theorem b50_88 (d : Nat) (μ : jM) (a : Nat) (r1 : Value) (i2 : Int32) (i3 : Int32) (i4 : Int32) (s0 : Int32) (h1 : jisref r1 = true) : jR d 50 88 [.ref a, r1, .int i2, .int i3, .int i4] [.int s0] μ = (if s0 = (-1) then jR d 50 99 [.ref a, r1, .int i2, .int (i3 ||| (1 <<< (i4 &&& 31))), .int i4] [] μ else jR d 50 99 [.ref a, r1, .int i2, .int i3, .int i4] [] μ) :=
  (l_iconst (show gPG 50 88 = some (.iconst (-1)) by decide +kernel) (c := (-1)) (by decide +kernel)).trans <|
  (l_cmp (show gPG 50 89 = some (.if_icmp .ne 10) by decide +kernel) (t := 99) (by decide +kernel)).trans <| jm_ne.trans <| ite_cg (
  (l_iload_n (show gPG 50 92 = some (.iload_n 3) by decide +kernel) rfl).trans <|
  (l_iconst (show gPG 50 93 = some (.iconst 1) by decide +kernel) (c := 1) (by decide +kernel)).trans <|
  (l_iload (show gPG 50 94 = some (.iload 4) by decide +kernel) rfl).trans <|
  (l_ishl (show gPG 50 96 = some (.ishl) by decide +kernel) ).trans <|
  (l_ior (show gPG 50 97 = some (.ior) by decide +kernel) ).trans <|
  l_istore_n (show gPG 50 98 = some (.istore_n 3) by decide +kernel) (ls := [.ref a, r1, .int i2, .int i3, .int i4]) (show (3 : Nat) < 5 by decide) (show _ = ([.ref a, r1, .int i2, .int (i3 ||| (1 <<< (i4 &&& 31))), .int i4] : List Value) from rfl)) (
  rfl)
theorem b50_99 (d : Nat) (μ : jM) (a : Nat) (r1 : Value) (i2 : Int32) (i3 : Int32) (i4 : Int32) (h1 : jisref r1 = true) : jR d 50 99 [.ref a, r1, .int i2, .int i3, .int i4] [] μ = jR d 50 19 [.ref a, r1, .int i2, .int i3, .int (i4 + 1)] [] μ :=
  (l_iinc (show gPG 50 99 = some (.iinc 4 1) by decide +kernel) (c := 1) (by decide +kernel) rfl (show _ = ([.ref a, r1, .int i2, .int i3, .int (i4 + 1)] : List Value) from rfl)).trans <|
  l_goto (show gPG 50 102 = some (.goto (-83)) by decide +kernel) (t := 19) (by decide +kernel)
-- Top.film
theorem b51_0 (d : Nat) (μ : jM) (a : Nat) (i1 : Int32) (i2 : Int32) (i3 : Int32) : jR (d + 1) 51 0 [.ref a, .int i1, .int i2, .int i3, .retAddr 0, .retAddr 0] [] μ = (jC d 48 [.int i1] μ).bind fun p1 => jR (d + 1) 51 4 [.ref a, .int i1, .int i2, .int i3, .retAddr 0, .retAddr 0] (p1.1.toList ++ []) p1.2 :=
  (l_iload_n (show gPG 51 0 = some (.iload_n 1) by decide +kernel) rfl).trans <|
  l_callS (u := 2) (as := [.int i1]) (show gPG 51 1 = some (jinvI 2 296) by decide +kernel) (by decide) (cc := 48) (na := 1) (q4 := 0) (z := 12) (rest := []) (by decide +kernel) (by decide +kernel)  rfl (show (1 : Nat) ≤ 1 by decide) rfl cs0 (by decide +kernel) (cai ca0) (fun e => absurd e (by decide))
theorem b51_4 (d : Nat) (μ : jM) (a : Nat) (i1 : Int32) (i2 : Int32) (i3 : Int32) (u4 : Value) (u5 : Value) (s0 : Int32) : jR (d + 1) 51 4 [.ref a, .int i1, .int i2, .int i3, u4, u5] [.int s0] μ = (if s0 = 0 then jR (d + 1) 51 21 [.ref a, .int i1, .int i2, .int i3, u4, u5] [] μ else (jC d 18 [.int i2] μ).bind fun p1 => jR (d + 1) 51 11 [.ref a, .int i1, .int i2, .int i3, u4, u5] (p1.1.toList ++ []) p1.2) :=
  (l_cmp0 (show gPG 51 4 = some (.ifCond .eq 17) by decide +kernel) (t := 21) (by decide +kernel)).trans <| jm_eq.trans <| ite_cg (
  rfl) (
  (l_iload_n (show gPG 51 7 = some (.iload_n 2) by decide +kernel) rfl).trans <|
  l_callS (u := 2) (as := [.int i2]) (show gPG 51 8 = some (jinvI 2 175) by decide +kernel) (by decide) (cc := 18) (na := 1) (q4 := 0) (z := 12) (rest := []) (by decide +kernel) (by decide +kernel)  rfl (show (1 : Nat) ≤ 1 by decide) rfl cs0 (by decide +kernel) (cai ca0) (fun e => absurd e (by decide)))
theorem b51_11 (d : Nat) (μ : jM) (a : Nat) (i1 : Int32) (i2 : Int32) (i3 : Int32) (u4 : Value) (u5 : Value) (s0 : Int32) : jR (d + 1) 51 11 [.ref a, .int i1, .int i2, .int i3, u4, u5] [.int s0] μ = (if s0 = 0 then jR (d + 1) 51 21 [.ref a, .int i1, .int i2, .int i3, u4, u5] [] μ else (jC d 32 [.int i3] μ).bind fun p1 => jR (d + 1) 51 18 [.ref a, .int i1, .int i2, .int i3, u4, u5] (p1.1.toList ++ []) p1.2) :=
  (l_cmp0 (show gPG 51 11 = some (.ifCond .eq 10) by decide +kernel) (t := 21) (by decide +kernel)).trans <| jm_eq.trans <| ite_cg (
  rfl) (
  (l_iload_n (show gPG 51 14 = some (.iload_n 3) by decide +kernel) rfl).trans <|
  l_callS (u := 2) (as := [.int i3]) (show gPG 51 15 = some (jinvI 2 211) by decide +kernel) (by decide) (cc := 32) (na := 1) (q4 := 0) (z := 12) (rest := []) (by decide +kernel) (by decide +kernel)  rfl (show (1 : Nat) ≤ 1 by decide) rfl cs0 (by decide +kernel) (cai ca0) (fun e => absurd e (by decide)))
theorem b51_18 (d : Nat) (μ : jM) (a : Nat) (i1 : Int32) (i2 : Int32) (i3 : Int32) (u4 : Value) (u5 : Value) (s0 : Int32) : jR (d + 1) 51 18 [.ref a, .int i1, .int i2, .int i3, u4, u5] [.int s0] μ = (if s0 = 0 then jR (d + 1) 51 21 [.ref a, .int i1, .int i2, .int i3, u4, u5] [] μ else (jgR μ 12 0 (.ref a)).bind fun w1 => (if jrecv μ 3 w1 = true then (jC d 69 [w1, .int i2] μ).bind fun p2 => jR (d + 1) 51 32 [.ref a, .int i1, .int i2, .int i3, u4, u5] (p2.1.toList ++ []) p2.2 else none)) :=
  (l_cmp0 (show gPG 51 18 = some (.ifCond .ne 6) by decide +kernel) (t := 24) (by decide +kernel)).trans <| jm_ne.trans <| ite_cg (
  rfl) (
  (l_aload_n (show gPG 51 24 = some (.aload_n 0) by decide +kernel) rfl jr_ref).trans <|
  (l_gR (show gPG 51 25 = some (.getfield 14) by decide +kernel) (kd := 12) (sl := 0) (tc := 1) (fin := 1) (z := 0) (by decide +kernel) (by decide +kernel) (by decide +kernel)).trans <| bd_cg fun w1 hw1 =>
  (l_iload_n (show gPG 51 28 = some (.iload_n 2) by decide +kernel) rfl).trans <|
  l_callV (u := 1) (v := w1) (as := [.int i2]) (show gPG 51 29 = some (jinvI 1 104) by decide +kernel) (by decide) (cc := 69) (na := 2) (kd := 3) (q4 := 0) (z := 11) (rest := []) (by decide +kernel) (by decide +kernel)  rfl (show (2 : Nat) ≤ 2 by decide) rfl cs0 (by decide +kernel) (cai (cav (jr_gR hw1) ca0)))
theorem b51_21 (d : Nat) (μ : jM) (u0 : Value) (u1 : Value) (u2 : Value) (u3 : Value) (u4 : Value) (u5 : Value) : jR d 51 21 [u0, u1, u2, u3, u4, u5] [] μ = some (some (.int (-2)), μ) :=
  (l_bipush (show gPG 51 21 = some (.bipush (-2)) by decide +kernel) (c := (-2)) (by decide +kernel)).trans <|
  l_iret1 (show gPG 51 23 = some (.ireturn) by decide +kernel) (by decide +kernel)
theorem b51_32 (d : Nat) (μ : jM) (a : Nat) (i1 : Int32) (u2 : Value) (i3 : Int32) (u4 : Value) (u5 : Value) (s0 : Value) (hs0 : jisref s0 = true) : jR (d + 1) 51 32 [.ref a, .int i1, u2, .int i3, u4, u5] [s0] μ = (jgR μ 12 14 (.ref a)).bind fun w1 => (jaR μ w1 i1).bind fun w2 => (jgI μ 6 0 s0).bind fun x3 => (if jrecv μ 9 w2 = true then (jC d 126 [w2, .int 1, .int x3] μ).bind fun p4 => jR (d + 1) 51 49 [.ref a, .int i1, u2, .int i3, s0, u5] (p4.1.toList ++ []) p4.2 else none) :=
  (l_astore (show gPG 51 32 = some (.astore 4) by decide +kernel) (ls := [.ref a, .int i1, u2, .int i3, u4, u5]) hs0 (show (4 : Nat) < 6 by decide) (show _ = ([.ref a, .int i1, u2, .int i3, s0, u5] : List Value) from rfl)).trans <|
  (l_aload_n (show gPG 51 34 = some (.aload_n 0) by decide +kernel) rfl jr_ref).trans <|
  (l_gR (show gPG 51 35 = some (.getfield 80) by decide +kernel) (kd := 12) (sl := 14) (tc := 1) (fin := 1) (z := 0) (by decide +kernel) (by decide +kernel) (by decide +kernel)).trans <| bd_cg fun w1 hw1 =>
  (l_iload_n (show gPG 51 38 = some (.iload_n 1) by decide +kernel) rfl).trans <|
  (l_aald (show gPG 51 39 = some (.aaload) by decide +kernel) ).trans <| bd_cg fun w2 hw2 =>
  (l_iconst (show gPG 51 40 = some (.iconst 1) by decide +kernel) (c := 1) (by decide +kernel)).trans <|
  (l_aload (show gPG 51 41 = some (.aload 4) by decide +kernel) rfl hs0).trans <|
  (l_gI (show gPG 51 43 = some (.getfield 139) by decide +kernel) (kd := 6) (sl := 0) (tc := 0) (fin := 0) (z := 1) (by decide +kernel) (by decide +kernel) (by decide +kernel)).trans <| bd_cg fun x3 hx3 =>
  l_callV (u := 1) (v := w2) (as := [.int 1, .int x3]) (show gPG 51 46 = some (jinvI 1 311) by decide +kernel) (by decide) (cc := 126) (na := 3) (kd := 9) (q4 := 0) (z := 11) (rest := []) (by decide +kernel) (by decide +kernel)  rfl (show (3 : Nat) ≤ 3 by decide) rfl cs0 (by decide +kernel) (cai (cai (cav (jr_aR hw2) ca0)))
theorem b51_49 (d : Nat) (μ : jM) (a : Nat) (i1 : Int32) (u2 : Value) (i3 : Int32) (r4 : Value) (u5 : Value) (h4 : jisref r4 = true) : jR d 51 49 [.ref a, .int i1, u2, .int i3, r4, u5] [] μ = jR d 51 52 [.ref a, .int i1, u2, .int i3, r4, .int 0] [] μ :=
  (l_iconst (show gPG 51 49 = some (.iconst 0) by decide +kernel) (c := 0) (by decide +kernel)).trans <|
  l_istore (show gPG 51 50 = some (.istore 5) by decide +kernel) (ls := [.ref a, .int i1, u2, .int i3, r4, u5]) (show (5 : Nat) < 6 by decide) (show _ = ([.ref a, .int i1, u2, .int i3, r4, .int 0] : List Value) from rfl)
theorem b51_52 (d : Nat) (μ : jM) (a : Nat) (i1 : Int32) (u2 : Value) (i3 : Int32) (r4 : Value) (i5 : Int32) (h4 : jisref r4 = true) : jR (d + 1) 51 52 [.ref a, .int i1, u2, .int i3, r4, .int i5] [] μ = (jgI μ 6 0 r4).bind fun x1 => (if i5 < x1 then (jgR μ 12 14 (.ref a)).bind fun w3 => (jaR μ w3 i1).bind fun w4 => (jgR μ 12 5 (.ref a)).bind fun w5 => (if jrecv μ 2 w5 = true then (jC d 59 [w5, r4, .int i5, .int i3] μ).bind fun p6 => jR (d + 1) 51 82 [.ref a, .int i1, u2, .int i3, r4, .int i5] (p6.1.toList ++ [.int i5, w4]) p6.2 else none) else (jgI μ 6 0 r4).bind fun x2 => some (some (.int x2), μ)) :=
  (l_iload (show gPG 51 52 = some (.iload 5) by decide +kernel) rfl).trans <|
  (l_aload (show gPG 51 54 = some (.aload 4) by decide +kernel) rfl h4).trans <|
  (l_gI (show gPG 51 56 = some (.getfield 139) by decide +kernel) (kd := 6) (sl := 0) (tc := 0) (fin := 0) (z := 1) (by decide +kernel) (by decide +kernel) (by decide +kernel)).trans <| bd_cg fun x1 hx1 =>
  (l_cmp (show gPG 51 59 = some (.if_icmp .ge 32) by decide +kernel) (t := 91) (by decide +kernel)).trans <| jm_ge.trans <| ite_cg (
  (l_aload_n (show gPG 51 62 = some (.aload_n 0) by decide +kernel) rfl jr_ref).trans <|
  (l_gR (show gPG 51 63 = some (.getfield 80) by decide +kernel) (kd := 12) (sl := 14) (tc := 1) (fin := 1) (z := 0) (by decide +kernel) (by decide +kernel) (by decide +kernel)).trans <| bd_cg fun w3 hw3 =>
  (l_iload_n (show gPG 51 66 = some (.iload_n 1) by decide +kernel) rfl).trans <|
  (l_aald (show gPG 51 67 = some (.aaload) by decide +kernel) ).trans <| bd_cg fun w4 hw4 =>
  (l_iload (show gPG 51 68 = some (.iload 5) by decide +kernel) rfl).trans <|
  (l_aload_n (show gPG 51 70 = some (.aload_n 0) by decide +kernel) rfl jr_ref).trans <|
  (l_gR (show gPG 51 71 = some (.getfield 40) by decide +kernel) (kd := 12) (sl := 5) (tc := 1) (fin := 1) (z := 0) (by decide +kernel) (by decide +kernel) (by decide +kernel)).trans <| bd_cg fun w5 hw5 =>
  (l_aload (show gPG 51 74 = some (.aload 4) by decide +kernel) rfl h4).trans <|
  (l_iload (show gPG 51 76 = some (.iload 5) by decide +kernel) rfl).trans <|
  (l_iload_n (show gPG 51 78 = some (.iload_n 3) by decide +kernel) rfl).trans <|
  l_callV (u := 1) (v := w5) (as := [r4, .int i5, .int i3]) (show gPG 51 79 = some (jinvI 1 188) by decide +kernel) (by decide) (cc := 59) (na := 4) (kd := 2) (q4 := 0) (z := 11) (rest := [.int i5, w4]) (by decide +kernel) (by decide +kernel)  rfl (show (4 : Nat) ≤ 6 by decide) rfl (csi (csv (jr_aR hw4) cs0)) (by decide +kernel) (cai (cai (cav h4 (cav (jr_gR hw5) ca0))))) (
  (l_aload (show gPG 51 91 = some (.aload 4) by decide +kernel) rfl h4).trans <|
  (l_gI (show gPG 51 93 = some (.getfield 139) by decide +kernel) (kd := 6) (sl := 0) (tc := 0) (fin := 0) (z := 1) (by decide +kernel) (by decide +kernel) (by decide +kernel)).trans <| bd_cg fun x2 hx2 =>
  l_iret1 (show gPG 51 96 = some (.ireturn) by decide +kernel) (by decide +kernel))
theorem b51_82 (d : Nat) (μ : jM) (a : Nat) (i1 : Int32) (u2 : Value) (i3 : Int32) (r4 : Value) (i5 : Int32) (s0 : Value) (s1 : Int32) (s2 : Int32) (h4 : jisref r4 = true) (hs0 : jisref s0 = true) : jR (d + 1) 51 82 [.ref a, .int i1, u2, .int i3, r4, .int i5] [.int s2, .int s1, s0] μ = (if jrecv μ 9 s0 = true then (jC d 127 [s0, .int s1, .int s2] μ).bind fun p1 => jR (d + 1) 51 85 [.ref a, .int i1, u2, .int i3, r4, .int i5] (p1.1.toList ++ []) p1.2 else none) :=
  l_callV (u := 1) (v := s0) (as := [.int s1, .int s2]) (show gPG 51 82 = some (jinvI 1 313) by decide +kernel) (by decide) (cc := 127) (na := 3) (kd := 9) (q4 := 0) (z := 11) (rest := []) (by decide +kernel) (by decide +kernel)  rfl (show (3 : Nat) ≤ 3 by decide) rfl cs0 (by decide +kernel) (cai (cai (cav hs0 ca0)))
theorem b51_85 (d : Nat) (μ : jM) (a : Nat) (i1 : Int32) (u2 : Value) (i3 : Int32) (r4 : Value) (i5 : Int32) (h4 : jisref r4 = true) : jR d 51 85 [.ref a, .int i1, u2, .int i3, r4, .int i5] [] μ = jR d 51 52 [.ref a, .int i1, u2, .int i3, r4, .int (i5 + 1)] [] μ :=
  (l_iinc (show gPG 51 85 = some (.iinc 5 1) by decide +kernel) (c := 1) (by decide +kernel) rfl (show _ = ([.ref a, .int i1, u2, .int i3, r4, .int (i5 + 1)] : List Value) from rfl)).trans <|
  l_goto (show gPG 51 88 = some (.goto (-36)) by decide +kernel) (t := 52) (by decide +kernel)
-- Top.image
theorem b52_0 (d : Nat) (μ : jM) (a : Nat) : jR (d + 1) 52 0 [.ref a] [] μ = (jgR μ 12 1 (.ref a)).bind fun w1 => (jgR μ 12 0 (.ref a)).bind fun w2 => (if jrecv μ 3 w1 = true then (jC d 73 [w1, w2] μ).bind fun p3 => jR (d + 1) 52 11 [.ref a] (p3.1.toList ++ []) p3.2 else none) :=
  (l_aload_n (show gPG 52 0 = some (.aload_n 0) by decide +kernel) rfl jr_ref).trans <|
  (l_gR (show gPG 52 1 = some (.getfield 18) by decide +kernel) (kd := 12) (sl := 1) (tc := 1) (fin := 1) (z := 0) (by decide +kernel) (by decide +kernel) (by decide +kernel)).trans <| bd_cg fun w1 hw1 =>
  (l_aload_n (show gPG 52 4 = some (.aload_n 0) by decide +kernel) rfl jr_ref).trans <|
  (l_gR (show gPG 52 5 = some (.getfield 14) by decide +kernel) (kd := 12) (sl := 0) (tc := 1) (fin := 1) (z := 0) (by decide +kernel) (by decide +kernel) (by decide +kernel)).trans <| bd_cg fun w2 hw2 =>
  l_callV (u := 1) (v := w1) (as := [w2]) (show gPG 52 8 = some (jinvI 1 316) by decide +kernel) (by decide) (cc := 73) (na := 2) (kd := 3) (q4 := 0) (z := 11) (rest := []) (by decide +kernel) (by decide +kernel)  rfl (show (2 : Nat) ≤ 2 by decide) rfl cs0 (by decide +kernel) (cav (jr_gR hw2) (cav (jr_gR hw1) ca0))
theorem b52_11 (d : Nat) (μ : jM) (a : Nat) : jR d 52 11 [.ref a] [] μ = (jpI μ 12 2 2 (.ref a) 1).bind fun m1 => (jgR m1 12 0 (.ref a)).bind fun w2 => (jgR m1 3 3 w2).bind fun w3 => (jgI m1 6 0 w3).bind fun x4 => some (some (.int x4), m1) :=
  (l_aload_n (show gPG 52 11 = some (.aload_n 0) by decide +kernel) rfl jr_ref).trans <|
  (l_iconst (show gPG 52 12 = some (.iconst 1) by decide +kernel) (c := 1) (by decide +kernel)).trans <|
  (l_pI (show gPG 52 13 = some (.putfield 319) by decide +kernel) (kd := 12) (sl := 2) (tc := 2) (fin := 0) (z := 0) (by decide +kernel) (by decide +kernel) (by decide +kernel)).trans <| bd_cg fun m1 hm1 =>
  (l_aload_n (show gPG 52 16 = some (.aload_n 0) by decide +kernel) rfl jr_ref).trans <|
  (l_gR (show gPG 52 17 = some (.getfield 14) by decide +kernel) (kd := 12) (sl := 0) (tc := 1) (fin := 1) (z := 0) (by decide +kernel) (by decide +kernel) (by decide +kernel)).trans <| bd_cg fun w2 hw2 =>
  (l_gR (show gPG 52 20 = some (.getfield 243) by decide +kernel) (kd := 3) (sl := 3) (tc := 1) (fin := 1) (z := 1) (by decide +kernel) (by decide +kernel) (by decide +kernel)).trans <| bd_cg fun w3 hw3 =>
  (l_gI (show gPG 52 23 = some (.getfield 139) by decide +kernel) (kd := 6) (sl := 0) (tc := 0) (fin := 0) (z := 1) (by decide +kernel) (by decide +kernel) (by decide +kernel)).trans <| bd_cg fun x4 hx4 =>
  l_iret1 (show gPG 52 26 = some (.ireturn) by decide +kernel) (by decide +kernel)
-- Top.back
theorem b53_0 (d : Nat) (μ : jM) (a : Nat) : jR (d + 1) 53 0 [.ref a] [] μ = (jgI μ 12 2 (.ref a)).bind fun x1 => (if x1 = 0 then some (some (.int (-3)), μ) else (jgR μ 12 0 (.ref a)).bind fun w2 => (jgR μ 12 1 (.ref a)).bind fun w3 => (if jrecv μ 3 w2 = true then (jC d 73 [w2, w3] μ).bind fun p4 => jR (d + 1) 53 21 [.ref a] (p4.1.toList ++ []) p4.2 else none)) :=
  (l_aload_n (show gPG 53 0 = some (.aload_n 0) by decide +kernel) rfl jr_ref).trans <|
  (l_gI (show gPG 53 1 = some (.getfield 319) by decide +kernel) (kd := 12) (sl := 2) (tc := 2) (fin := 0) (z := 0) (by decide +kernel) (by decide +kernel) (by decide +kernel)).trans <| bd_cg fun x1 hx1 =>
  (l_cmp0 (show gPG 53 4 = some (.ifCond .ne 6) by decide +kernel) (t := 10) (by decide +kernel)).trans <| jm_ne.trans <| ite_cg (
  (l_bipush (show gPG 53 7 = some (.bipush (-3)) by decide +kernel) (c := (-3)) (by decide +kernel)).trans <|
  l_iret1 (show gPG 53 9 = some (.ireturn) by decide +kernel) (by decide +kernel)) (
  (l_aload_n (show gPG 53 10 = some (.aload_n 0) by decide +kernel) rfl jr_ref).trans <|
  (l_gR (show gPG 53 11 = some (.getfield 14) by decide +kernel) (kd := 12) (sl := 0) (tc := 1) (fin := 1) (z := 0) (by decide +kernel) (by decide +kernel) (by decide +kernel)).trans <| bd_cg fun w2 hw2 =>
  (l_aload_n (show gPG 53 14 = some (.aload_n 0) by decide +kernel) rfl jr_ref).trans <|
  (l_gR (show gPG 53 15 = some (.getfield 18) by decide +kernel) (kd := 12) (sl := 1) (tc := 1) (fin := 1) (z := 0) (by decide +kernel) (by decide +kernel) (by decide +kernel)).trans <| bd_cg fun w3 hw3 =>
  l_callV (u := 1) (v := w2) (as := [w3]) (show gPG 53 18 = some (jinvI 1 316) by decide +kernel) (by decide) (cc := 73) (na := 2) (kd := 3) (q4 := 0) (z := 11) (rest := []) (by decide +kernel) (by decide +kernel)  rfl (show (2 : Nat) ≤ 2 by decide) rfl cs0 (by decide +kernel) (cav (jr_gR hw3) (cav (jr_gR hw2) ca0)))
theorem b53_21 (d : Nat) (μ : jM) (a : Nat) : jR (d + 1) 53 21 [.ref a] [] μ = (if jrecv μ 12 (.ref a) = true then (jC d 20 [.ref a] μ).bind fun p1 => jR (d + 1) 53 25 [.ref a] (p1.1.toList ++ []) p1.2 else none) :=
  (l_aload_n (show gPG 53 21 = some (.aload_n 0) by decide +kernel) rfl jr_ref).trans <|
  l_callV (u := 1) (v := .ref a) (as := []) (show gPG 53 22 = some (jinvI 1 280) by decide +kernel) (by decide) (cc := 20) (na := 1) (kd := 12) (q4 := 0) (z := 10) (rest := []) (by decide +kernel) (by decide +kernel)  rfl (show (1 : Nat) ≤ 1 by decide) rfl cs0 (by decide +kernel) (cav jr_ref ca0)
theorem b53_25 (d : Nat) (μ : jM) (a : Nat) : jR d 53 25 [.ref a] [] μ = (jgR μ 12 0 (.ref a)).bind fun w1 => (jgR μ 3 3 w1).bind fun w2 => (jgI μ 6 0 w2).bind fun x3 => some (some (.int x3), μ) :=
  (l_aload_n (show gPG 53 25 = some (.aload_n 0) by decide +kernel) rfl jr_ref).trans <|
  (l_gR (show gPG 53 26 = some (.getfield 14) by decide +kernel) (kd := 12) (sl := 0) (tc := 1) (fin := 1) (z := 0) (by decide +kernel) (by decide +kernel) (by decide +kernel)).trans <| bd_cg fun w1 hw1 =>
  (l_gR (show gPG 53 29 = some (.getfield 243) by decide +kernel) (kd := 3) (sl := 3) (tc := 1) (fin := 1) (z := 1) (by decide +kernel) (by decide +kernel) (by decide +kernel)).trans <| bd_cg fun w2 hw2 =>
  (l_gI (show gPG 53 32 = some (.getfield 139) by decide +kernel) (kd := 6) (sl := 0) (tc := 0) (fin := 0) (z := 1) (by decide +kernel) (by decide +kernel) (by decide +kernel)).trans <| bd_cg fun x3 hx3 =>
  l_iret1 (show gPG 53 35 = some (.ireturn) by decide +kernel) (by decide +kernel)
-- Top.count
theorem b54_0 (d : Nat) (μ : jM) (a : Nat) (i1 : Int32) : jR (d + 1) 54 0 [.ref a, .int i1] [] μ = (jC d 18 [.int i1] μ).bind fun p1 => jR (d + 1) 54 4 [.ref a, .int i1] (p1.1.toList ++ []) p1.2 :=
  (l_iload_n (show gPG 54 0 = some (.iload_n 1) by decide +kernel) rfl).trans <|
  l_callS (u := 2) (as := [.int i1]) (show gPG 54 1 = some (jinvI 2 175) by decide +kernel) (by decide) (cc := 18) (na := 1) (q4 := 0) (z := 12) (rest := []) (by decide +kernel) (by decide +kernel)  rfl (show (1 : Nat) ≤ 1 by decide) rfl cs0 (by decide +kernel) (cai ca0) (fun e => absurd e (by decide))
theorem sw54_20 (x : Int32) : ((jsw (.tableswitch 64 4 7 #[32, 40, 48, 56]) x).bind fun o => jtgt 20 o) = if x = 4 then some 52 else if x = 5 then some 60 else if x = 6 then some 68 else if x = 7 then some 76 else some 84 := by
  by_cases h0 : x = 4
  · subst h0; decide +kernel
  by_cases h1 : x = 5
  · subst h1; decide +kernel
  by_cases h2 : x = 6
  · subst h2; decide +kernel
  by_cases h3 : x = 7
  · subst h3; decide +kernel
  have g0 : x.toInt ≠ 4 := fun e => h0 (Int32.toInt_inj.mp (e.trans (by decide +kernel)))
  have g1 : x.toInt ≠ 5 := fun e => h1 (Int32.toInt_inj.mp (e.trans (by decide +kernel)))
  have g2 : x.toInt ≠ 6 := fun e => h2 (Int32.toInt_inj.mp (e.trans (by decide +kernel)))
  have g3 : x.toInt ≠ 7 := fun e => h3 (Int32.toInt_inj.mp (e.trans (by decide +kernel)))
  have e : jsw (.tableswitch 64 4 7 #[32, 40, 48, 56]) x = some 64 := by
    show (if x.toInt < 4 ∨ 7 < x.toInt then _ else _) = _
    rw [if_pos (by omega)]
  rw [e]
  simp only [Option.bind_some, h0, if_false, h1, if_false, h2, if_false, h3, if_false]
  decide +kernel
theorem b54_4 (d : Nat) (μ : jM) (a : Nat) (i1 : Int32) (s0 : Int32) : jR (d + 1) 54 4 [.ref a, .int i1] [.int s0] μ = (if s0 = 0 then (if i1 = 4 then (jgR μ 12 6 (.ref a)).bind fun w1 => (jgI μ 4 0 w1).bind fun x2 => some (some (.int x2), μ) else (if i1 = 5 then (jgR μ 12 6 (.ref a)).bind fun w3 => (if jrecv μ 4 w3 = true then (jC d 79 [w3] μ).bind fun p4 => jR (d + 1) 54 67 [.ref a, .int i1] (p4.1.toList ++ []) p4.2 else none) else (if i1 = 6 then (jgR μ 12 0 (.ref a)).bind fun w5 => (jgI μ 3 7 w5).bind fun x6 => some (some (.int x6), μ) else (if i1 = 7 then (jgR μ 12 3 (.ref a)).bind fun w7 => (jgI μ 10 1 w7).bind fun x8 => some (some (.int x8), μ) else some (some (.int (-2)), μ))))) else (jgR μ 12 0 (.ref a)).bind fun w9 => (if jrecv μ 3 w9 = true then (jC d 69 [w9, .int i1] μ).bind fun p10 => jR (d + 1) 54 15 [.ref a, .int i1] (p10.1.toList ++ []) p10.2 else none)) :=
  (l_cmp0 (show gPG 54 4 = some (.ifCond .eq 15) by decide +kernel) (t := 19) (by decide +kernel)).trans <| jm_eq.trans <| ite_cg (
  (l_iload_n (show gPG 54 19 = some (.iload_n 1) by decide +kernel) rfl).trans <|
  (l_tsw (show gPG 54 20 = some (.tableswitch 64 4 7 #[32, 40, 48, 56]) by decide +kernel) sw54_20).trans <| ite_bd (
  (l_aload_n (show gPG 54 52 = some (.aload_n 0) by decide +kernel) rfl jr_ref).trans <|
  (l_gR (show gPG 54 53 = some (.getfield 47) by decide +kernel) (kd := 12) (sl := 6) (tc := 1) (fin := 1) (z := 0) (by decide +kernel) (by decide +kernel) (by decide +kernel)).trans <| bd_cg fun w1 hw1 =>
  (l_gI (show gPG 54 56 = some (.getfield 255) by decide +kernel) (kd := 4) (sl := 0) (tc := 0) (fin := 0) (z := 1) (by decide +kernel) (by decide +kernel) (by decide +kernel)).trans <| bd_cg fun x2 hx2 =>
  l_iret1 (show gPG 54 59 = some (.ireturn) by decide +kernel) (by decide +kernel)) (
  ite_bd (
  (l_aload_n (show gPG 54 60 = some (.aload_n 0) by decide +kernel) rfl jr_ref).trans <|
  (l_gR (show gPG 54 61 = some (.getfield 47) by decide +kernel) (kd := 12) (sl := 6) (tc := 1) (fin := 1) (z := 0) (by decide +kernel) (by decide +kernel) (by decide +kernel)).trans <| bd_cg fun w3 hw3 =>
  l_callV (u := 1) (v := w3) (as := []) (show gPG 54 64 = some (jinvI 1 273) by decide +kernel) (by decide) (cc := 79) (na := 1) (kd := 4) (q4 := 0) (z := 11) (rest := []) (by decide +kernel) (by decide +kernel)  rfl (show (1 : Nat) ≤ 1 by decide) rfl cs0 (by decide +kernel) (cav (jr_gR hw3) ca0)) (
  ite_bd (
  (l_aload_n (show gPG 54 68 = some (.aload_n 0) by decide +kernel) rfl jr_ref).trans <|
  (l_gR (show gPG 54 69 = some (.getfield 14) by decide +kernel) (kd := 12) (sl := 0) (tc := 1) (fin := 1) (z := 0) (by decide +kernel) (by decide +kernel) (by decide +kernel)).trans <| bd_cg fun w5 hw5 =>
  (l_gI (show gPG 54 72 = some (.getfield 283) by decide +kernel) (kd := 3) (sl := 7) (tc := 0) (fin := 0) (z := 1) (by decide +kernel) (by decide +kernel) (by decide +kernel)).trans <| bd_cg fun x6 hx6 =>
  l_iret1 (show gPG 54 75 = some (.ireturn) by decide +kernel) (by decide +kernel)) (
  ite_bd (
  (l_aload_n (show gPG 54 76 = some (.aload_n 0) by decide +kernel) rfl jr_ref).trans <|
  (l_gR (show gPG 54 77 = some (.getfield 24) by decide +kernel) (kd := 12) (sl := 3) (tc := 1) (fin := 1) (z := 0) (by decide +kernel) (by decide +kernel) (by decide +kernel)).trans <| bd_cg fun w7 hw7 =>
  (l_gI (show gPG 54 80 = some (.getfield 97) by decide +kernel) (kd := 10) (sl := 1) (tc := 0) (fin := 0) (z := 1) (by decide +kernel) (by decide +kernel) (by decide +kernel)).trans <| bd_cg fun x8 hx8 =>
  l_iret1 (show gPG 54 83 = some (.ireturn) by decide +kernel) (by decide +kernel)) (
  sm_bd (
  (l_bipush (show gPG 54 84 = some (.bipush (-2)) by decide +kernel) (c := (-2)) (by decide +kernel)).trans <|
  l_iret1 (show gPG 54 86 = some (.ireturn) by decide +kernel) (by decide +kernel))))))) (
  (l_aload_n (show gPG 54 7 = some (.aload_n 0) by decide +kernel) rfl jr_ref).trans <|
  (l_gR (show gPG 54 8 = some (.getfield 14) by decide +kernel) (kd := 12) (sl := 0) (tc := 1) (fin := 1) (z := 0) (by decide +kernel) (by decide +kernel) (by decide +kernel)).trans <| bd_cg fun w9 hw9 =>
  (l_iload_n (show gPG 54 11 = some (.iload_n 1) by decide +kernel) rfl).trans <|
  l_callV (u := 1) (v := w9) (as := [.int i1]) (show gPG 54 12 = some (jinvI 1 104) by decide +kernel) (by decide) (cc := 69) (na := 2) (kd := 3) (q4 := 0) (z := 11) (rest := []) (by decide +kernel) (by decide +kernel)  rfl (show (2 : Nat) ≤ 2 by decide) rfl cs0 (by decide +kernel) (cai (cav (jr_gR hw9) ca0)))
theorem b54_15 (d : Nat) (μ : jM) (u0 : Value) (u1 : Value) (s0 : Value) (hs0 : jisref s0 = true) : jR d 54 15 [u0, u1] [s0] μ = (jgI μ 6 0 s0).bind fun x1 => some (some (.int x1), μ) :=
  (l_gI (show gPG 54 15 = some (.getfield 139) by decide +kernel) (kd := 6) (sl := 0) (tc := 0) (fin := 0) (z := 1) (by decide +kernel) (by decide +kernel) (by decide +kernel)).trans <| bd_cg fun x1 hx1 =>
  l_iret1 (show gPG 54 18 = some (.ireturn) by decide +kernel) (by decide +kernel)
theorem b54_67 (d : Nat) (μ : jM) (u0 : Value) (u1 : Value) (s0 : Int32) : jR d 54 67 [u0, u1] [.int s0] μ = some (some (.int s0), μ) :=
  l_iret1 (show gPG 54 67 = some (.ireturn) by decide +kernel) (by decide +kernel)
-- Top.sheet
theorem b55_0 (d : Nat) (μ : jM) (a : Nat) (i1 : Int32) (i2 : Int32) (i3 : Int32) : jR (d + 1) 55 0 [.ref a, .int i1, .int i2, .int i3] [] μ = (jC d 48 [.int i1] μ).bind fun p1 => jR (d + 1) 55 4 [.ref a, .int i1, .int i2, .int i3] (p1.1.toList ++ []) p1.2 :=
  (l_iload_n (show gPG 55 0 = some (.iload_n 1) by decide +kernel) rfl).trans <|
  l_callS (u := 2) (as := [.int i1]) (show gPG 55 1 = some (jinvI 2 296) by decide +kernel) (by decide) (cc := 48) (na := 1) (q4 := 0) (z := 12) (rest := []) (by decide +kernel) (by decide +kernel)  rfl (show (1 : Nat) ≤ 1 by decide) rfl cs0 (by decide +kernel) (cai ca0) (fun e => absurd e (by decide))
theorem b55_4 (d : Nat) (μ : jM) (a : Nat) (i1 : Int32) (i2 : Int32) (i3 : Int32) (s0 : Int32) : jR (d + 1) 55 4 [.ref a, .int i1, .int i2, .int i3] [.int s0] μ = (if s0 = 0 then jR (d + 1) 55 27 [.ref a, .int i1, .int i2, .int i3] [] μ else (jC d 13 [.int i2, .int (-1), .int 1] μ).bind fun p1 => jR (d + 1) 55 13 [.ref a, .int i1, .int i2, .int i3] (p1.1.toList ++ []) p1.2) :=
  (l_cmp0 (show gPG 55 4 = some (.ifCond .eq 23) by decide +kernel) (t := 27) (by decide +kernel)).trans <| jm_eq.trans <| ite_cg (
  rfl) (
  (l_iload_n (show gPG 55 7 = some (.iload_n 2) by decide +kernel) rfl).trans <|
  (l_iconst (show gPG 55 8 = some (.iconst (-1)) by decide +kernel) (c := (-1)) (by decide +kernel)).trans <|
  (l_iconst (show gPG 55 9 = some (.iconst 1) by decide +kernel) (c := 1) (by decide +kernel)).trans <|
  l_callS (u := 2) (as := [.int i2, .int (-1), .int 1]) (show gPG 55 10 = some (jinvI 2 85) by decide +kernel) (by decide) (cc := 13) (na := 3) (q4 := 0) (z := 12) (rest := []) (by decide +kernel) (by decide +kernel)  rfl (show (3 : Nat) ≤ 3 by decide) rfl cs0 (by decide +kernel) (cai (cai (cai ca0))) (fun e => absurd e (by decide)))
theorem b55_13 (d : Nat) (μ : jM) (a : Nat) (i1 : Int32) (i2 : Int32) (i3 : Int32) (s0 : Int32) : jR d 55 13 [.ref a, .int i1, .int i2, .int i3] [.int s0] μ = (if s0 = 0 then jR d 55 27 [.ref a, .int i1, .int i2, .int i3] [] μ else (if i2 = (-1) then jR d 55 30 [.ref a, .int i1, .int i2, .int i3] [] μ else (if 40 < i3 then jR d 55 27 [.ref a, .int i1, .int i2, .int i3] [] μ else jR d 55 30 [.ref a, .int i1, .int i2, .int i3] [] μ))) :=
  (l_cmp0 (show gPG 55 13 = some (.ifCond .eq 14) by decide +kernel) (t := 27) (by decide +kernel)).trans <| jm_eq.trans <| ite_cg (
  rfl) (
  (l_iload_n (show gPG 55 16 = some (.iload_n 2) by decide +kernel) rfl).trans <|
  (l_iconst (show gPG 55 17 = some (.iconst (-1)) by decide +kernel) (c := (-1)) (by decide +kernel)).trans <|
  (l_cmp (show gPG 55 18 = some (.if_icmp .eq 12) by decide +kernel) (t := 30) (by decide +kernel)).trans <| jm_eq.trans <| ite_cg (
  rfl) (
  (l_iload_n (show gPG 55 21 = some (.iload_n 3) by decide +kernel) rfl).trans <|
  (l_bipush (show gPG 55 22 = some (.bipush 40) by decide +kernel) (c := 40) (by decide +kernel)).trans <|
  (l_cmp (show gPG 55 24 = some (.if_icmp .le 6) by decide +kernel) (t := 30) (by decide +kernel)).trans <| jm_le.trans <| ite_cg (
  rfl) (
  rfl)))
theorem b55_27 (d : Nat) (μ : jM) (u0 : Value) (u1 : Value) (u2 : Value) (u3 : Value) : jR d 55 27 [u0, u1, u2, u3] [] μ = some (some (.int (-2)), μ) :=
  (l_bipush (show gPG 55 27 = some (.bipush (-2)) by decide +kernel) (c := (-2)) (by decide +kernel)).trans <|
  l_iret1 (show gPG 55 29 = some (.ireturn) by decide +kernel) (by decide +kernel)
theorem b55_30 (d : Nat) (μ : jM) (a : Nat) (i1 : Int32) (i2 : Int32) (i3 : Int32) : jR d 55 30 [.ref a, .int i1, .int i2, .int i3] [] μ = (if i2 = (-1) then jR d 55 42 [.ref a, .int i1, .int i2, .int i3] [] μ else (if i3 < 0 then some (some (.int (-14)), μ) else jR d 55 42 [.ref a, .int i1, .int i2, .int i3] [] μ)) :=
  (l_iload_n (show gPG 55 30 = some (.iload_n 2) by decide +kernel) rfl).trans <|
  (l_iconst (show gPG 55 31 = some (.iconst (-1)) by decide +kernel) (c := (-1)) (by decide +kernel)).trans <|
  (l_cmp (show gPG 55 32 = some (.if_icmp .eq 10) by decide +kernel) (t := 42) (by decide +kernel)).trans <| jm_eq.trans <| ite_cg (
  rfl) (
  (l_iload_n (show gPG 55 35 = some (.iload_n 3) by decide +kernel) rfl).trans <|
  (l_cmp0 (show gPG 55 36 = some (.ifCond .ge 6) by decide +kernel) (t := 42) (by decide +kernel)).trans <| jm_ge.trans <| ite_cg (
  (l_bipush (show gPG 55 39 = some (.bipush (-14)) by decide +kernel) (c := (-14)) (by decide +kernel)).trans <|
  l_iret1 (show gPG 55 41 = some (.ireturn) by decide +kernel) (by decide +kernel)) (
  rfl))
theorem b55_42 (d : Nat) (μ : jM) (a : Nat) (i1 : Int32) (i2 : Int32) (i3 : Int32) : jR d 55 42 [.ref a, .int i1, .int i2, .int i3] [] μ = (jgR μ 12 14 (.ref a)).bind fun w1 => (jaR μ w1 i1).bind fun w2 => (if i2 = (-1) then jR d 55 59 [.ref a, .int i1, .int i2, .int i3] [.int 0, .int i2, w2] μ else jR d 55 59 [.ref a, .int i1, .int i2, .int i3] [.int i3, .int i2, w2] μ) :=
  (l_aload_n (show gPG 55 42 = some (.aload_n 0) by decide +kernel) rfl jr_ref).trans <|
  (l_gR (show gPG 55 43 = some (.getfield 80) by decide +kernel) (kd := 12) (sl := 14) (tc := 1) (fin := 1) (z := 0) (by decide +kernel) (by decide +kernel) (by decide +kernel)).trans <| bd_cg fun w1 hw1 =>
  (l_iload_n (show gPG 55 46 = some (.iload_n 1) by decide +kernel) rfl).trans <|
  (l_aald (show gPG 55 47 = some (.aaload) by decide +kernel) ).trans <| bd_cg fun w2 hw2 =>
  (l_iload_n (show gPG 55 48 = some (.iload_n 2) by decide +kernel) rfl).trans <|
  (l_iload_n (show gPG 55 49 = some (.iload_n 2) by decide +kernel) rfl).trans <|
  (l_iconst (show gPG 55 50 = some (.iconst (-1)) by decide +kernel) (c := (-1)) (by decide +kernel)).trans <|
  (l_cmp (show gPG 55 51 = some (.if_icmp .ne 7) by decide +kernel) (t := 58) (by decide +kernel)).trans <| jm_ne.trans <| ite_cg (
  (l_iconst (show gPG 55 54 = some (.iconst 0) by decide +kernel) (c := 0) (by decide +kernel)).trans <|
  l_goto (show gPG 55 55 = some (.goto 4) by decide +kernel) (t := 59) (by decide +kernel)) (
  l_iload_n (show gPG 55 58 = some (.iload_n 3) by decide +kernel) rfl)
theorem b55_59 (d : Nat) (μ : jM) (u0 : Value) (u1 : Value) (u2 : Value) (u3 : Value) (s0 : Value) (s1 : Int32) (s2 : Int32) (hs0 : jisref s0 = true) : jR (d + 1) 55 59 [u0, u1, u2, u3] [.int s2, .int s1, s0] μ = (if jrecv μ 9 s0 = true then (jC d 126 [s0, .int s1, .int s2] μ).bind fun p1 => jR (d + 1) 55 62 [u0, u1, u2, u3] (p1.1.toList ++ []) p1.2 else none) :=
  l_callV (u := 1) (v := s0) (as := [.int s1, .int s2]) (show gPG 55 59 = some (jinvI 1 311) by decide +kernel) (by decide) (cc := 126) (na := 3) (kd := 9) (q4 := 0) (z := 11) (rest := []) (by decide +kernel) (by decide +kernel)  rfl (show (3 : Nat) ≤ 3 by decide) rfl cs0 (by decide +kernel) (cai (cai (cav hs0 ca0)))
theorem b55_62 (d : Nat) (μ : jM) (u0 : Value) (u1 : Value) (u2 : Value) (u3 : Value) : jR d 55 62 [u0, u1, u2, u3] [] μ = some (some (.int 1), μ) :=
  (l_iconst (show gPG 55 62 = some (.iconst 1) by decide +kernel) (c := 1) (by decide +kernel)).trans <|
  l_iret1 (show gPG 55 63 = some (.ireturn) by decide +kernel) (by decide +kernel)
-- Top.put
theorem b56_0 (d : Nat) (μ : jM) (a : Nat) (i1 : Int32) (i2 : Int32) (i3 : Int32) : jR (d + 1) 56 0 [.ref a, .int i1, .int i2, .int i3] [] μ = (jC d 48 [.int i1] μ).bind fun p1 => jR (d + 1) 56 4 [.ref a, .int i1, .int i2, .int i3] (p1.1.toList ++ []) p1.2 :=
  (l_iload_n (show gPG 56 0 = some (.iload_n 1) by decide +kernel) rfl).trans <|
  l_callS (u := 2) (as := [.int i1]) (show gPG 56 1 = some (jinvI 2 296) by decide +kernel) (by decide) (cc := 48) (na := 1) (q4 := 0) (z := 12) (rest := []) (by decide +kernel) (by decide +kernel)  rfl (show (1 : Nat) ≤ 1 by decide) rfl cs0 (by decide +kernel) (cai ca0) (fun e => absurd e (by decide))
theorem b56_4 (d : Nat) (μ : jM) (a : Nat) (i1 : Int32) (i2 : Int32) (i3 : Int32) (s0 : Int32) : jR (d + 1) 56 4 [.ref a, .int i1, .int i2, .int i3] [.int s0] μ = (if s0 = 0 then some (some (.int (-2)), μ) else (jgR μ 12 14 (.ref a)).bind fun w1 => (jaR μ w1 i1).bind fun w2 => (if jrecv μ 9 w2 = true then (jC d 125 [w2] μ).bind fun p3 => jR (d + 1) 56 19 [.ref a, .int i1, .int i2, .int i3] (p3.1.toList ++ []) p3.2 else none)) :=
  (l_cmp0 (show gPG 56 4 = some (.ifCond .ne 6) by decide +kernel) (t := 10) (by decide +kernel)).trans <| jm_ne.trans <| ite_cg (
  (l_bipush (show gPG 56 7 = some (.bipush (-2)) by decide +kernel) (c := (-2)) (by decide +kernel)).trans <|
  l_iret1 (show gPG 56 9 = some (.ireturn) by decide +kernel) (by decide +kernel)) (
  (l_aload_n (show gPG 56 10 = some (.aload_n 0) by decide +kernel) rfl jr_ref).trans <|
  (l_gR (show gPG 56 11 = some (.getfield 80) by decide +kernel) (kd := 12) (sl := 14) (tc := 1) (fin := 1) (z := 0) (by decide +kernel) (by decide +kernel) (by decide +kernel)).trans <| bd_cg fun w1 hw1 =>
  (l_iload_n (show gPG 56 14 = some (.iload_n 1) by decide +kernel) rfl).trans <|
  (l_aald (show gPG 56 15 = some (.aaload) by decide +kernel) ).trans <| bd_cg fun w2 hw2 =>
  l_callV (u := 1) (v := w2) (as := []) (show gPG 56 16 = some (jinvI 1 299) by decide +kernel) (by decide) (cc := 125) (na := 1) (kd := 9) (q4 := 0) (z := 11) (rest := []) (by decide +kernel) (by decide +kernel)  rfl (show (1 : Nat) ≤ 1 by decide) rfl cs0 (by decide +kernel) (cav (jr_aR hw2) ca0))
theorem b56_19 (d : Nat) (μ : jM) (a : Nat) (i1 : Int32) (i2 : Int32) (i3 : Int32) (s0 : Int32) : jR (d + 1) 56 19 [.ref a, .int i1, .int i2, .int i3] [.int s0] μ = (if s0 = 0 then (jgR μ 12 14 (.ref a)).bind fun w1 => (jaR μ w1 i1).bind fun w2 => (if jrecv μ 9 w2 = true then (jC d 128 [w2, .int i2, .int 1] μ).bind fun p3 => jR (d + 1) 56 36 [.ref a, .int i1, .int i2, .int i3] (p3.1.toList ++ []) p3.2 else none) else some (some (.int (-11)), μ)) :=
  (l_cmp0 (show gPG 56 19 = some (.ifCond .eq 6) by decide +kernel) (t := 25) (by decide +kernel)).trans <| jm_eq.trans <| ite_cg (
  (l_aload_n (show gPG 56 25 = some (.aload_n 0) by decide +kernel) rfl jr_ref).trans <|
  (l_gR (show gPG 56 26 = some (.getfield 80) by decide +kernel) (kd := 12) (sl := 14) (tc := 1) (fin := 1) (z := 0) (by decide +kernel) (by decide +kernel) (by decide +kernel)).trans <| bd_cg fun w1 hw1 =>
  (l_iload_n (show gPG 56 29 = some (.iload_n 1) by decide +kernel) rfl).trans <|
  (l_aald (show gPG 56 30 = some (.aaload) by decide +kernel) ).trans <| bd_cg fun w2 hw2 =>
  (l_iload_n (show gPG 56 31 = some (.iload_n 2) by decide +kernel) rfl).trans <|
  (l_iconst (show gPG 56 32 = some (.iconst 1) by decide +kernel) (c := 1) (by decide +kernel)).trans <|
  l_callV (u := 1) (v := w2) (as := [.int i2, .int 1]) (show gPG 56 33 = some (jinvI 1 322) by decide +kernel) (by decide) (cc := 128) (na := 3) (kd := 9) (q4 := 0) (z := 11) (rest := []) (by decide +kernel) (by decide +kernel)  rfl (show (3 : Nat) ≤ 3 by decide) rfl cs0 (by decide +kernel) (cai (cai (cav (jr_aR hw2) ca0)))) (
  (l_bipush (show gPG 56 22 = some (.bipush (-11)) by decide +kernel) (c := (-11)) (by decide +kernel)).trans <|
  l_iret1 (show gPG 56 24 = some (.ireturn) by decide +kernel) (by decide +kernel))
theorem b56_36 (d : Nat) (μ : jM) (a : Nat) (i1 : Int32) (i2 : Int32) (i3 : Int32) (s0 : Int32) : jR (d + 1) 56 36 [.ref a, .int i1, .int i2, .int i3] [.int s0] μ = (if s0 = 0 then some (some (.int (-12)), μ) else (jgR μ 12 14 (.ref a)).bind fun w1 => (jaR μ w1 i1).bind fun w2 => (if jrecv μ 9 w2 = true then (jC d 127 [w2, .int i2, .int i3] μ).bind fun p3 => jR (d + 1) 56 53 [.ref a, .int i1, .int i2, .int i3] (p3.1.toList ++ []) p3.2 else none)) :=
  (l_cmp0 (show gPG 56 36 = some (.ifCond .ne 6) by decide +kernel) (t := 42) (by decide +kernel)).trans <| jm_ne.trans <| ite_cg (
  (l_bipush (show gPG 56 39 = some (.bipush (-12)) by decide +kernel) (c := (-12)) (by decide +kernel)).trans <|
  l_iret1 (show gPG 56 41 = some (.ireturn) by decide +kernel) (by decide +kernel)) (
  (l_aload_n (show gPG 56 42 = some (.aload_n 0) by decide +kernel) rfl jr_ref).trans <|
  (l_gR (show gPG 56 43 = some (.getfield 80) by decide +kernel) (kd := 12) (sl := 14) (tc := 1) (fin := 1) (z := 0) (by decide +kernel) (by decide +kernel) (by decide +kernel)).trans <| bd_cg fun w1 hw1 =>
  (l_iload_n (show gPG 56 46 = some (.iload_n 1) by decide +kernel) rfl).trans <|
  (l_aald (show gPG 56 47 = some (.aaload) by decide +kernel) ).trans <| bd_cg fun w2 hw2 =>
  (l_iload_n (show gPG 56 48 = some (.iload_n 2) by decide +kernel) rfl).trans <|
  (l_iload_n (show gPG 56 49 = some (.iload_n 3) by decide +kernel) rfl).trans <|
  l_callV (u := 1) (v := w2) (as := [.int i2, .int i3]) (show gPG 56 50 = some (jinvI 1 313) by decide +kernel) (by decide) (cc := 127) (na := 3) (kd := 9) (q4 := 0) (z := 11) (rest := []) (by decide +kernel) (by decide +kernel)  rfl (show (3 : Nat) ≤ 3 by decide) rfl cs0 (by decide +kernel) (cai (cai (cav (jr_aR hw2) ca0))))
theorem b56_53 (d : Nat) (μ : jM) (u0 : Value) (u1 : Value) (u2 : Value) (u3 : Value) : jR d 56 53 [u0, u1, u2, u3] [] μ = some (some (.int 1), μ) :=
  (l_iconst (show gPG 56 53 = some (.iconst 1) by decide +kernel) (c := 1) (by decide +kernel)).trans <|
  l_iret1 (show gPG 56 54 = some (.ireturn) by decide +kernel) (by decide +kernel)
-- Top.copy
theorem b57_0 (d : Nat) (μ : jM) (a : Nat) (i1 : Int32) (i2 : Int32) (i3 : Int32) (i4 : Int32) (i5 : Int32) : jR (d + 1) 57 0 [.ref a, .int i1, .int i2, .int i3, .int i4, .int i5, .retAddr 0, .retAddr 0] [] μ = (jC d 48 [.int i1] μ).bind fun p1 => jR (d + 1) 57 4 [.ref a, .int i1, .int i2, .int i3, .int i4, .int i5, .retAddr 0, .retAddr 0] (p1.1.toList ++ []) p1.2 :=
  (l_iload_n (show gPG 57 0 = some (.iload_n 1) by decide +kernel) rfl).trans <|
  l_callS (u := 2) (as := [.int i1]) (show gPG 57 1 = some (jinvI 2 296) by decide +kernel) (by decide) (cc := 48) (na := 1) (q4 := 0) (z := 12) (rest := []) (by decide +kernel) (by decide +kernel)  rfl (show (1 : Nat) ≤ 1 by decide) rfl cs0 (by decide +kernel) (cai ca0) (fun e => absurd e (by decide))
theorem b57_4 (d : Nat) (μ : jM) (a : Nat) (i1 : Int32) (i2 : Int32) (i3 : Int32) (i4 : Int32) (i5 : Int32) (u6 : Value) (u7 : Value) (s0 : Int32) : jR (d + 1) 57 4 [.ref a, .int i1, .int i2, .int i3, .int i4, .int i5, u6, u7] [.int s0] μ = (if s0 = 0 then jR (d + 1) 57 14 [.ref a, .int i1, .int i2, .int i3, .int i4, .int i5, u6, u7] [] μ else (jC d 48 [.int i3] μ).bind fun p1 => jR (d + 1) 57 11 [.ref a, .int i1, .int i2, .int i3, .int i4, .int i5, u6, u7] (p1.1.toList ++ []) p1.2) :=
  (l_cmp0 (show gPG 57 4 = some (.ifCond .eq 10) by decide +kernel) (t := 14) (by decide +kernel)).trans <| jm_eq.trans <| ite_cg (
  rfl) (
  (l_iload_n (show gPG 57 7 = some (.iload_n 3) by decide +kernel) rfl).trans <|
  l_callS (u := 2) (as := [.int i3]) (show gPG 57 8 = some (jinvI 2 296) by decide +kernel) (by decide) (cc := 48) (na := 1) (q4 := 0) (z := 12) (rest := []) (by decide +kernel) (by decide +kernel)  rfl (show (1 : Nat) ≤ 1 by decide) rfl cs0 (by decide +kernel) (cai ca0) (fun e => absurd e (by decide)))
theorem b57_11 (d : Nat) (μ : jM) (a : Nat) (i1 : Int32) (i2 : Int32) (i3 : Int32) (i4 : Int32) (i5 : Int32) (u6 : Value) (u7 : Value) (s0 : Int32) : jR (d + 1) 57 11 [.ref a, .int i1, .int i2, .int i3, .int i4, .int i5, u6, u7] [.int s0] μ = (if s0 = 0 then jR (d + 1) 57 14 [.ref a, .int i1, .int i2, .int i3, .int i4, .int i5, u6, u7] [] μ else (jgR μ 12 14 (.ref a)).bind fun w1 => (jaR μ w1 i1).bind fun w2 => (jgR μ 12 14 (.ref a)).bind fun w3 => (jaR μ w3 i3).bind fun w4 => (if jrecv μ 9 w2 = true then (jC d 125 [w2] μ).bind fun p5 => jR (d + 1) 57 38 [.ref a, .int i1, .int i2, .int i3, .int i4, .int i5, w2, w4] (p5.1.toList ++ []) p5.2 else none)) :=
  (l_cmp0 (show gPG 57 11 = some (.ifCond .ne 6) by decide +kernel) (t := 17) (by decide +kernel)).trans <| jm_ne.trans <| ite_cg (
  rfl) (
  (l_aload_n (show gPG 57 17 = some (.aload_n 0) by decide +kernel) rfl jr_ref).trans <|
  (l_gR (show gPG 57 18 = some (.getfield 80) by decide +kernel) (kd := 12) (sl := 14) (tc := 1) (fin := 1) (z := 0) (by decide +kernel) (by decide +kernel) (by decide +kernel)).trans <| bd_cg fun w1 hw1 =>
  (l_iload_n (show gPG 57 21 = some (.iload_n 1) by decide +kernel) rfl).trans <|
  (l_aald (show gPG 57 22 = some (.aaload) by decide +kernel) ).trans <| bd_cg fun w2 hw2 =>
  (l_astore (show gPG 57 23 = some (.astore 6) by decide +kernel) (ls := [.ref a, .int i1, .int i2, .int i3, .int i4, .int i5, u6, u7]) (jr_aR hw2) (show (6 : Nat) < 8 by decide) (show _ = ([.ref a, .int i1, .int i2, .int i3, .int i4, .int i5, w2, u7] : List Value) from rfl)).trans <|
  (l_aload_n (show gPG 57 25 = some (.aload_n 0) by decide +kernel) rfl jr_ref).trans <|
  (l_gR (show gPG 57 26 = some (.getfield 80) by decide +kernel) (kd := 12) (sl := 14) (tc := 1) (fin := 1) (z := 0) (by decide +kernel) (by decide +kernel) (by decide +kernel)).trans <| bd_cg fun w3 hw3 =>
  (l_iload_n (show gPG 57 29 = some (.iload_n 3) by decide +kernel) rfl).trans <|
  (l_aald (show gPG 57 30 = some (.aaload) by decide +kernel) ).trans <| bd_cg fun w4 hw4 =>
  (l_astore (show gPG 57 31 = some (.astore 7) by decide +kernel) (ls := [.ref a, .int i1, .int i2, .int i3, .int i4, .int i5, w2, u7]) (jr_aR hw4) (show (7 : Nat) < 8 by decide) (show _ = ([.ref a, .int i1, .int i2, .int i3, .int i4, .int i5, w2, w4] : List Value) from rfl)).trans <|
  (l_aload (show gPG 57 33 = some (.aload 6) by decide +kernel) rfl (jr_aR hw2)).trans <|
  l_callV (u := 1) (v := w2) (as := []) (show gPG 57 35 = some (jinvI 1 299) by decide +kernel) (by decide) (cc := 125) (na := 1) (kd := 9) (q4 := 0) (z := 11) (rest := []) (by decide +kernel) (by decide +kernel)  rfl (show (1 : Nat) ≤ 1 by decide) rfl cs0 (by decide +kernel) (cav (jr_aR hw2) ca0))
theorem b57_14 (d : Nat) (μ : jM) (u0 : Value) (u1 : Value) (u2 : Value) (u3 : Value) (u4 : Value) (u5 : Value) (u6 : Value) (u7 : Value) : jR d 57 14 [u0, u1, u2, u3, u4, u5, u6, u7] [] μ = some (some (.int (-2)), μ) :=
  (l_bipush (show gPG 57 14 = some (.bipush (-2)) by decide +kernel) (c := (-2)) (by decide +kernel)).trans <|
  l_iret1 (show gPG 57 16 = some (.ireturn) by decide +kernel) (by decide +kernel)
theorem b57_38 (d : Nat) (μ : jM) (u0 : Value) (u1 : Value) (i2 : Int32) (u3 : Value) (i4 : Int32) (i5 : Int32) (r6 : Value) (r7 : Value) (s0 : Int32) (h6 : jisref r6 = true) (h7 : jisref r7 = true) : jR (d + 1) 57 38 [u0, u1, .int i2, u3, .int i4, .int i5, r6, r7] [.int s0] μ = (if s0 = 0 then (if jrecv μ 9 r7 = true then (jC d 125 [r7] μ).bind fun p1 => jR (d + 1) 57 46 [u0, u1, .int i2, u3, .int i4, .int i5, r6, r7] (p1.1.toList ++ []) p1.2 else none) else jR (d + 1) 57 49 [u0, u1, .int i2, u3, .int i4, .int i5, r6, r7] [] μ) :=
  (l_cmp0 (show gPG 57 38 = some (.ifCond .ne 11) by decide +kernel) (t := 49) (by decide +kernel)).trans <| jm_ne.trans <| ite_cg (
  (l_aload (show gPG 57 41 = some (.aload 7) by decide +kernel) rfl h7).trans <|
  l_callV (u := 1) (v := r7) (as := []) (show gPG 57 43 = some (jinvI 1 299) by decide +kernel) (by decide) (cc := 125) (na := 1) (kd := 9) (q4 := 0) (z := 11) (rest := []) (by decide +kernel) (by decide +kernel)  rfl (show (1 : Nat) ≤ 1 by decide) rfl cs0 (by decide +kernel) (cav h7 ca0)) (
  rfl)
theorem b57_46 (d : Nat) (μ : jM) (u0 : Value) (u1 : Value) (i2 : Int32) (u3 : Value) (i4 : Int32) (i5 : Int32) (r6 : Value) (r7 : Value) (s0 : Int32) (h6 : jisref r6 = true) (h7 : jisref r7 = true) : jR (d + 1) 57 46 [u0, u1, .int i2, u3, .int i4, .int i5, r6, r7] [.int s0] μ = (if s0 = 0 then (jgI μ 9 0 r6).bind fun x1 => (jgI μ 9 0 r7).bind fun x2 => (if x1 = x2 then (if jrecv μ 9 r6 = true then (jC d 128 [r6, .int i2, .int i5] μ).bind fun p3 => jR (d + 1) 57 76 [u0, u1, .int i2, u3, .int i4, .int i5, r6, r7] (p3.1.toList ++ []) p3.2 else none) else some (some (.int (-13)), μ)) else jR (d + 1) 57 49 [u0, u1, .int i2, u3, .int i4, .int i5, r6, r7] [] μ) :=
  (l_cmp0 (show gPG 57 46 = some (.ifCond .eq 6) by decide +kernel) (t := 52) (by decide +kernel)).trans <| jm_eq.trans <| ite_cg (
  (l_aload (show gPG 57 52 = some (.aload 6) by decide +kernel) rfl h6).trans <|
  (l_gI (show gPG 57 54 = some (.getfield 325) by decide +kernel) (kd := 9) (sl := 0) (tc := 0) (fin := 0) (z := 1) (by decide +kernel) (by decide +kernel) (by decide +kernel)).trans <| bd_cg fun x1 hx1 =>
  (l_aload (show gPG 57 57 = some (.aload 7) by decide +kernel) rfl h7).trans <|
  (l_gI (show gPG 57 59 = some (.getfield 325) by decide +kernel) (kd := 9) (sl := 0) (tc := 0) (fin := 0) (z := 1) (by decide +kernel) (by decide +kernel) (by decide +kernel)).trans <| bd_cg fun x2 hx2 =>
  (l_cmp (show gPG 57 62 = some (.if_icmp .eq 6) by decide +kernel) (t := 68) (by decide +kernel)).trans <| jm_eq.trans <| ite_cg (
  (l_aload (show gPG 57 68 = some (.aload 6) by decide +kernel) rfl h6).trans <|
  (l_iload_n (show gPG 57 70 = some (.iload_n 2) by decide +kernel) rfl).trans <|
  (l_iload (show gPG 57 71 = some (.iload 5) by decide +kernel) rfl).trans <|
  l_callV (u := 1) (v := r6) (as := [.int i2, .int i5]) (show gPG 57 73 = some (jinvI 1 322) by decide +kernel) (by decide) (cc := 128) (na := 3) (kd := 9) (q4 := 0) (z := 11) (rest := []) (by decide +kernel) (by decide +kernel)  rfl (show (3 : Nat) ≤ 3 by decide) rfl cs0 (by decide +kernel) (cai (cai (cav h6 ca0)))) (
  (l_bipush (show gPG 57 65 = some (.bipush (-13)) by decide +kernel) (c := (-13)) (by decide +kernel)).trans <|
  l_iret1 (show gPG 57 67 = some (.ireturn) by decide +kernel) (by decide +kernel))) (
  rfl)
theorem b57_49 (d : Nat) (μ : jM) (u0 : Value) (u1 : Value) (u2 : Value) (u3 : Value) (u4 : Value) (u5 : Value) (u6 : Value) (u7 : Value) : jR d 57 49 [u0, u1, u2, u3, u4, u5, u6, u7] [] μ = some (some (.int (-11)), μ) :=
  (l_bipush (show gPG 57 49 = some (.bipush (-11)) by decide +kernel) (c := (-11)) (by decide +kernel)).trans <|
  l_iret1 (show gPG 57 51 = some (.ireturn) by decide +kernel) (by decide +kernel)
theorem b57_76 (d : Nat) (μ : jM) (u0 : Value) (u1 : Value) (i2 : Int32) (u3 : Value) (i4 : Int32) (i5 : Int32) (r6 : Value) (r7 : Value) (s0 : Int32) (h6 : jisref r6 = true) (h7 : jisref r7 = true) : jR (d + 1) 57 76 [u0, u1, .int i2, u3, .int i4, .int i5, r6, r7] [.int s0] μ = (if s0 = 0 then jR (d + 1) 57 91 [u0, u1, .int i2, u3, .int i4, .int i5, r6, r7] [] μ else (if jrecv μ 9 r7 = true then (jC d 128 [r7, .int i4, .int i5] μ).bind fun p1 => jR (d + 1) 57 88 [u0, u1, .int i2, u3, .int i4, .int i5, r6, r7] (p1.1.toList ++ []) p1.2 else none)) :=
  (l_cmp0 (show gPG 57 76 = some (.ifCond .eq 15) by decide +kernel) (t := 91) (by decide +kernel)).trans <| jm_eq.trans <| ite_cg (
  rfl) (
  (l_aload (show gPG 57 79 = some (.aload 7) by decide +kernel) rfl h7).trans <|
  (l_iload (show gPG 57 81 = some (.iload 4) by decide +kernel) rfl).trans <|
  (l_iload (show gPG 57 83 = some (.iload 5) by decide +kernel) rfl).trans <|
  l_callV (u := 1) (v := r7) (as := [.int i4, .int i5]) (show gPG 57 85 = some (jinvI 1 322) by decide +kernel) (by decide) (cc := 128) (na := 3) (kd := 9) (q4 := 0) (z := 11) (rest := []) (by decide +kernel) (by decide +kernel)  rfl (show (3 : Nat) ≤ 3 by decide) rfl cs0 (by decide +kernel) (cai (cai (cav h7 ca0))))
theorem b57_88 (d : Nat) (μ : jM) (u0 : Value) (u1 : Value) (i2 : Int32) (u3 : Value) (i4 : Int32) (i5 : Int32) (r6 : Value) (r7 : Value) (s0 : Int32) (h6 : jisref r6 = true) (h7 : jisref r7 = true) : jR (d + 1) 57 88 [u0, u1, .int i2, u3, .int i4, .int i5, r6, r7] [.int s0] μ = (if s0 = 0 then jR (d + 1) 57 91 [u0, u1, .int i2, u3, .int i4, .int i5, r6, r7] [] μ else (jgR μ 9 2 r6).bind fun w1 => (jgR μ 9 2 r7).bind fun w2 => (jcp μ w1 i2 w2 i4 i5).bind fun m3 => some (some (.int i5), m3)) :=
  (l_cmp0 (show gPG 57 88 = some (.ifCond .ne 6) by decide +kernel) (t := 94) (by decide +kernel)).trans <| jm_ne.trans <| ite_cg (
  rfl) (
  (l_aload (show gPG 57 94 = some (.aload 6) by decide +kernel) rfl h6).trans <|
  (l_gR (show gPG 57 96 = some (.getfield 328) by decide +kernel) (kd := 9) (sl := 2) (tc := 1) (fin := 1) (z := 1) (by decide +kernel) (by decide +kernel) (by decide +kernel)).trans <| bd_cg fun w1 hw1 =>
  (l_iload_n (show gPG 57 99 = some (.iload_n 2) by decide +kernel) rfl).trans <|
  (l_aload (show gPG 57 100 = some (.aload 7) by decide +kernel) rfl h7).trans <|
  (l_gR (show gPG 57 102 = some (.getfield 328) by decide +kernel) (kd := 9) (sl := 2) (tc := 1) (fin := 1) (z := 1) (by decide +kernel) (by decide +kernel) (by decide +kernel)).trans <| bd_cg fun w2 hw2 =>
  (l_iload (show gPG 57 105 = some (.iload 4) by decide +kernel) rfl).trans <|
  (l_iload (show gPG 57 107 = some (.iload 5) by decide +kernel) rfl).trans <|
  (l_acp (show gPG 57 109 = some (.invokestatic 331) by decide +kernel) (q3 := 99) (q4 := 0) (z := 19) (by decide +kernel) (by decide +kernel) (jr_gR hw1) (jr_gR hw2) cs0 (by decide +kernel)).trans <| bd_cg fun m3 hm3 =>
  (l_iload (show gPG 57 112 = some (.iload 5) by decide +kernel) rfl).trans <|
  l_iret1 (show gPG 57 114 = some (.ireturn) by decide +kernel) (by decide +kernel))
theorem b57_91 (d : Nat) (μ : jM) (u0 : Value) (u1 : Value) (u2 : Value) (u3 : Value) (u4 : Value) (u5 : Value) (u6 : Value) (u7 : Value) : jR d 57 91 [u0, u1, u2, u3, u4, u5, u6, u7] [] μ = some (some (.int (-12)), μ) :=
  (l_bipush (show gPG 57 91 = some (.bipush (-12)) by decide +kernel) (c := (-12)) (by decide +kernel)).trans <|
  l_iret1 (show gPG 57 93 = some (.ireturn) by decide +kernel) (by decide +kernel)
