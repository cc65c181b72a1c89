/-! THE BLOCKS of GridMergerModel, laid by program (1) -/
-- Ref.init
theorem b160_0 (d : Nat) (μ : jM) (a : Nat) : jR (d + 1) 160 0 [.ref a] [] μ = (jpR ((jnew μ 20 4 4)) 13 0 (.ref a) ((.ref (jsz μ)))).bind fun m1 => (jpR ((jfill2 m1 33 (jel 33) 4 8 4)) 13 1 (.ref a) ((.ref (jsz m1)))).bind fun m2 => (jpR ((jfill2 m2 33 (jel 33) 4 24 4)) 13 2 (.ref a) ((.ref (jsz m2)))).bind fun m3 => (jpR ((jfill2 m3 33 (jel 33) 4 24 4)) 13 3 (.ref a) ((.ref (jsz m3)))).bind fun m4 => (jpR ((jfill2 m4 33 (jel 33) 4 24 4)) 13 4 (.ref a) ((.ref (jsz m4)))).bind fun m5 => (jpR ((jfill2 m5 34 (jel 34) 4 24 4)) 13 5 (.ref a) ((.ref (jsz m5)))).bind fun m6 => (jpR ((jnew m6 20 3 3)) 13 6 (.ref a) ((.ref (jsz m6)))).bind fun m7 => (jpR ((jnew m7 20 3 3)) 13 7 (.ref a) ((.ref (jsz m7)))).bind fun m8 => (jpR ((jfill2 m8 33 (jel 33) 14 4 14)) 13 8 (.ref a) ((.ref (jsz m8)))).bind fun m9 => (jpR ((jfill3 m9 34 (jel 34) (jel (jel 34)) 14 4 8 14)) 13 9 (.ref a) ((.ref (jsz m9)))).bind fun m10 => (jpR ((jfill3 m10 34 (jel 34) (jel (jel 34)) 14 4 24 14)) 13 10 (.ref a) ((.ref (jsz m10)))).bind fun m11 => (jpR ((jfill3 m11 34 (jel 34) (jel (jel 34)) 14 4 24 14)) 13 11 (.ref a) ((.ref (jsz m11)))).bind fun m12 => (jpR ((jfill3 m12 34 (jel 34) (jel (jel 34)) 14 4 24 14)) 13 12 (.ref a) ((.ref (jsz m12)))).bind fun m13 => (jpR ((jfill3 m13 35 (jel 35) (jel (jel 35)) 14 4 24 14)) 13 13 (.ref a) ((.ref (jsz m13)))).bind fun m14 => (jpR ((jnew m14 20 40 40)) 13 15 (.ref a) ((.ref (jsz m14)))).bind fun m15 => (jpR ((jnew m15 20 80 80)) 13 25 (.ref a) ((.ref (jsz m15)))).bind fun m16 => (jpR ((jnew m16 20 24 24)) 13 27 (.ref a) ((.ref (jsz m16)))).bind fun m17 => (jpR ((jnew m17 20 24 24)) 13 28 (.ref a) ((.ref (jsz m17)))).bind fun m18 => (jpR ((jnew m18 21 24 24)) 13 29 (.ref a) ((.ref (jsz m18)))).bind fun m19 => (jpR ((jnew m19 21 24 24)) 13 30 (.ref a) ((.ref (jsz m19)))).bind fun m20 => (jpR ((jnew m20 20 80 80)) 13 37 (.ref a) ((.ref (jsz m20)))).bind fun m21 => (jpR ((jnew m21 20 80 80)) 13 38 (.ref a) ((.ref (jsz m21)))).bind fun m22 => (jpR ((jnew m22 20 80 80)) 13 39 (.ref a) ((.ref (jsz m22)))).bind fun m23 => (jpR ((jnew m23 21 80 80)) 13 40 (.ref a) ((.ref (jsz m23)))).bind fun m24 => (jpR ((jnew m24 20 242 242)) 13 41 (.ref a) ((.ref (jsz m24)))).bind fun m25 => (jpR ((jnew m25 21 80 80)) 13 42 (.ref a) ((.ref (jsz m25)))).bind fun m26 => (jpR ((jnew m26 20 8 8)) 13 44 (.ref a) ((.ref (jsz m26)))).bind fun m27 => (jpR ((jnew m27 20 24 24)) 13 45 (.ref a) ((.ref (jsz m27)))).bind fun m28 => (jpR ((jnew m28 20 24 24)) 13 46 (.ref a) ((.ref (jsz m28)))).bind fun m29 => (jpR ((jnew m29 33 24 24)) 13 47 (.ref a) ((.ref (jsz m29)))).bind fun m30 => (jpR ((jnew m30 20 6 6)) 13 51 (.ref a) ((.ref (jsz m30)))).bind fun m31 => (jsI ((jnew m31 20 4 4)) ((.ref (jsz m31))) 0 (-1)).bind fun m32 => (jsI m32 ((.ref (jsz m31))) 1 (-1)).bind fun m33 => (jsI m33 ((.ref (jsz m31))) 2 (-1)).bind fun m34 => (jsI m34 ((.ref (jsz m31))) 3 (-1)).bind fun m35 => (jpR m35 13 52 (.ref a) ((.ref (jsz m31)))).bind fun m36 => (jpR ((jnew m36 20 4 4)) 13 53 (.ref a) ((.ref (jsz m36)))).bind fun m37 => (jpR ((jfill2 m37 33 (jel 33) 4 40 4)) 13 54 (.ref a) ((.ref (jsz m37)))).bind fun m38 => (jpR ((jnew m38 20 40 40)) 13 55 (.ref a) ((.ref (jsz m38)))).bind fun m39 => some (none, m39) :=
  (l_aload_n (show gPG 160 0 = some (.aload_n 0) by decide +kernel) rfl jr_ref).trans <|
  (l_obj (u := 3) (show gPG 160 1 = some (jinvI 3 5) by decide +kernel) (by decide) (q2 := 99) (q3 := 0) (z := 18) (by decide +kernel) (by decide +kernel) cs0 (by decide +kernel)).trans <|
  (l_aload_n (show gPG 160 4 = some (.aload_n 0) by decide +kernel) rfl jr_ref).trans <|
  (l_iconst (show gPG 160 5 = some (.iconst 4) by decide +kernel) (c := 4) (by decide +kernel)).trans <|
  (l_newaK (show gPG 160 6 = some (.newarray .int) by decide +kernel) (kd := 20) (N := 4) rfl (by decide +kernel)).trans <|
  (l_pR (show gPG 160 8 = some (.putfield 11) by decide +kernel) (kd := 13) (sl := 0) (tc := 1) (fin := 1) (z := 0) (by decide +kernel) (by decide +kernel) (by decide +kernel) jr_ref).trans <| bd_cg fun m1 hm1 =>
  (l_aload_n (show gPG 160 11 = some (.aload_n 0) by decide +kernel) rfl jr_ref).trans <|
  (l_iconst (show gPG 160 12 = some (.iconst 4) by decide +kernel) (c := 4) (by decide +kernel)).trans <|
  (l_bipush (show gPG 160 13 = some (.bipush 8) by decide +kernel) (c := 8) (by decide +kernel)).trans <|
  (l_mnaK (show gPG 160 15 = some (.multianewarray 15 2) by decide +kernel) (q1 := 0) (q2 := 0) (q3 := 0) (kd := 33) (N := 4) (M := 8) (by decide +kernel) (by decide +kernel)).trans <|
  (l_pR (show gPG 160 19 = some (.putfield 17) by decide +kernel) (kd := 13) (sl := 1) (tc := 1) (fin := 1) (z := 0) (by decide +kernel) (by decide +kernel) (by decide +kernel) jr_ref).trans <| bd_cg fun m2 hm2 =>
  (l_aload_n (show gPG 160 22 = some (.aload_n 0) by decide +kernel) rfl jr_ref).trans <|
  (l_iconst (show gPG 160 23 = some (.iconst 4) by decide +kernel) (c := 4) (by decide +kernel)).trans <|
  (l_bipush (show gPG 160 24 = some (.bipush 24) by decide +kernel) (c := 24) (by decide +kernel)).trans <|
  (l_mnaK (show gPG 160 26 = some (.multianewarray 15 2) by decide +kernel) (q1 := 0) (q2 := 0) (q3 := 0) (kd := 33) (N := 4) (M := 24) (by decide +kernel) (by decide +kernel)).trans <|
  (l_pR (show gPG 160 30 = some (.putfield 20) by decide +kernel) (kd := 13) (sl := 2) (tc := 1) (fin := 1) (z := 0) (by decide +kernel) (by decide +kernel) (by decide +kernel) jr_ref).trans <| bd_cg fun m3 hm3 =>
  (l_aload_n (show gPG 160 33 = some (.aload_n 0) by decide +kernel) rfl jr_ref).trans <|
  (l_iconst (show gPG 160 34 = some (.iconst 4) by decide +kernel) (c := 4) (by decide +kernel)).trans <|
  (l_bipush (show gPG 160 35 = some (.bipush 24) by decide +kernel) (c := 24) (by decide +kernel)).trans <|
  (l_mnaK (show gPG 160 37 = some (.multianewarray 15 2) by decide +kernel) (q1 := 0) (q2 := 0) (q3 := 0) (kd := 33) (N := 4) (M := 24) (by decide +kernel) (by decide +kernel)).trans <|
  (l_pR (show gPG 160 41 = some (.putfield 23) by decide +kernel) (kd := 13) (sl := 3) (tc := 1) (fin := 1) (z := 0) (by decide +kernel) (by decide +kernel) (by decide +kernel) jr_ref).trans <| bd_cg fun m4 hm4 =>
  (l_aload_n (show gPG 160 44 = some (.aload_n 0) by decide +kernel) rfl jr_ref).trans <|
  (l_iconst (show gPG 160 45 = some (.iconst 4) by decide +kernel) (c := 4) (by decide +kernel)).trans <|
  (l_bipush (show gPG 160 46 = some (.bipush 24) by decide +kernel) (c := 24) (by decide +kernel)).trans <|
  (l_mnaK (show gPG 160 48 = some (.multianewarray 15 2) by decide +kernel) (q1 := 0) (q2 := 0) (q3 := 0) (kd := 33) (N := 4) (M := 24) (by decide +kernel) (by decide +kernel)).trans <|
  (l_pR (show gPG 160 52 = some (.putfield 26) by decide +kernel) (kd := 13) (sl := 4) (tc := 1) (fin := 1) (z := 0) (by decide +kernel) (by decide +kernel) (by decide +kernel) jr_ref).trans <| bd_cg fun m5 hm5 =>
  (l_aload_n (show gPG 160 55 = some (.aload_n 0) by decide +kernel) rfl jr_ref).trans <|
  (l_iconst (show gPG 160 56 = some (.iconst 4) by decide +kernel) (c := 4) (by decide +kernel)).trans <|
  (l_bipush (show gPG 160 57 = some (.bipush 24) by decide +kernel) (c := 24) (by decide +kernel)).trans <|
  (l_mnaK (show gPG 160 59 = some (.multianewarray 29 2) by decide +kernel) (q1 := 0) (q2 := 0) (q3 := 0) (kd := 34) (N := 4) (M := 24) (by decide +kernel) (by decide +kernel)).trans <|
  (l_pR (show gPG 160 63 = some (.putfield 31) by decide +kernel) (kd := 13) (sl := 5) (tc := 1) (fin := 1) (z := 0) (by decide +kernel) (by decide +kernel) (by decide +kernel) jr_ref).trans <| bd_cg fun m6 hm6 =>
  (l_aload_n (show gPG 160 66 = some (.aload_n 0) by decide +kernel) rfl jr_ref).trans <|
  (l_iconst (show gPG 160 67 = some (.iconst 3) by decide +kernel) (c := 3) (by decide +kernel)).trans <|
  (l_newaK (show gPG 160 68 = some (.newarray .int) by decide +kernel) (kd := 20) (N := 3) rfl (by decide +kernel)).trans <|
  (l_pR (show gPG 160 70 = some (.putfield 34) by decide +kernel) (kd := 13) (sl := 6) (tc := 1) (fin := 1) (z := 0) (by decide +kernel) (by decide +kernel) (by decide +kernel) jr_ref).trans <| bd_cg fun m7 hm7 =>
  (l_aload_n (show gPG 160 73 = some (.aload_n 0) by decide +kernel) rfl jr_ref).trans <|
  (l_iconst (show gPG 160 74 = some (.iconst 3) by decide +kernel) (c := 3) (by decide +kernel)).trans <|
  (l_newaK (show gPG 160 75 = some (.newarray .int) by decide +kernel) (kd := 20) (N := 3) rfl (by decide +kernel)).trans <|
  (l_pR (show gPG 160 77 = some (.putfield 37) by decide +kernel) (kd := 13) (sl := 7) (tc := 1) (fin := 1) (z := 0) (by decide +kernel) (by decide +kernel) (by decide +kernel) jr_ref).trans <| bd_cg fun m8 hm8 =>
  (l_aload_n (show gPG 160 80 = some (.aload_n 0) by decide +kernel) rfl jr_ref).trans <|
  (l_bipush (show gPG 160 81 = some (.bipush 14) by decide +kernel) (c := 14) (by decide +kernel)).trans <|
  (l_iconst (show gPG 160 83 = some (.iconst 4) by decide +kernel) (c := 4) (by decide +kernel)).trans <|
  (l_mnaK (show gPG 160 84 = some (.multianewarray 15 2) by decide +kernel) (q1 := 0) (q2 := 0) (q3 := 0) (kd := 33) (N := 14) (M := 4) (by decide +kernel) (by decide +kernel)).trans <|
  (l_pR (show gPG 160 88 = some (.putfield 40) by decide +kernel) (kd := 13) (sl := 8) (tc := 1) (fin := 1) (z := 0) (by decide +kernel) (by decide +kernel) (by decide +kernel) jr_ref).trans <| bd_cg fun m9 hm9 =>
  (l_aload_n (show gPG 160 91 = some (.aload_n 0) by decide +kernel) rfl jr_ref).trans <|
  (l_bipush (show gPG 160 92 = some (.bipush 14) by decide +kernel) (c := 14) (by decide +kernel)).trans <|
  (l_iconst (show gPG 160 94 = some (.iconst 4) by decide +kernel) (c := 4) (by decide +kernel)).trans <|
  (l_bipush (show gPG 160 95 = some (.bipush 8) by decide +kernel) (c := 8) (by decide +kernel)).trans <|
  (l_mna3K (show gPG 160 97 = some (.multianewarray 29 3) by decide +kernel) (q1 := 0) (q2 := 0) (q3 := 0) (kd := 34) (N := 14) (M := 4) (T := 8) (by decide +kernel) (by decide +kernel)).trans <|
  (l_pR (show gPG 160 101 = some (.putfield 43) by decide +kernel) (kd := 13) (sl := 9) (tc := 1) (fin := 1) (z := 0) (by decide +kernel) (by decide +kernel) (by decide +kernel) jr_ref).trans <| bd_cg fun m10 hm10 =>
  (l_aload_n (show gPG 160 104 = some (.aload_n 0) by decide +kernel) rfl jr_ref).trans <|
  (l_bipush (show gPG 160 105 = some (.bipush 14) by decide +kernel) (c := 14) (by decide +kernel)).trans <|
  (l_iconst (show gPG 160 107 = some (.iconst 4) by decide +kernel) (c := 4) (by decide +kernel)).trans <|
  (l_bipush (show gPG 160 108 = some (.bipush 24) by decide +kernel) (c := 24) (by decide +kernel)).trans <|
  (l_mna3K (show gPG 160 110 = some (.multianewarray 29 3) by decide +kernel) (q1 := 0) (q2 := 0) (q3 := 0) (kd := 34) (N := 14) (M := 4) (T := 24) (by decide +kernel) (by decide +kernel)).trans <|
  (l_pR (show gPG 160 114 = some (.putfield 46) by decide +kernel) (kd := 13) (sl := 10) (tc := 1) (fin := 1) (z := 0) (by decide +kernel) (by decide +kernel) (by decide +kernel) jr_ref).trans <| bd_cg fun m11 hm11 =>
  (l_aload_n (show gPG 160 117 = some (.aload_n 0) by decide +kernel) rfl jr_ref).trans <|
  (l_bipush (show gPG 160 118 = some (.bipush 14) by decide +kernel) (c := 14) (by decide +kernel)).trans <|
  (l_iconst (show gPG 160 120 = some (.iconst 4) by decide +kernel) (c := 4) (by decide +kernel)).trans <|
  (l_bipush (show gPG 160 121 = some (.bipush 24) by decide +kernel) (c := 24) (by decide +kernel)).trans <|
  (l_mna3K (show gPG 160 123 = some (.multianewarray 29 3) by decide +kernel) (q1 := 0) (q2 := 0) (q3 := 0) (kd := 34) (N := 14) (M := 4) (T := 24) (by decide +kernel) (by decide +kernel)).trans <|
  (l_pR (show gPG 160 127 = some (.putfield 49) by decide +kernel) (kd := 13) (sl := 11) (tc := 1) (fin := 1) (z := 0) (by decide +kernel) (by decide +kernel) (by decide +kernel) jr_ref).trans <| bd_cg fun m12 hm12 =>
  (l_aload_n (show gPG 160 130 = some (.aload_n 0) by decide +kernel) rfl jr_ref).trans <|
  (l_bipush (show gPG 160 131 = some (.bipush 14) by decide +kernel) (c := 14) (by decide +kernel)).trans <|
  (l_iconst (show gPG 160 133 = some (.iconst 4) by decide +kernel) (c := 4) (by decide +kernel)).trans <|
  (l_bipush (show gPG 160 134 = some (.bipush 24) by decide +kernel) (c := 24) (by decide +kernel)).trans <|
  (l_mna3K (show gPG 160 136 = some (.multianewarray 29 3) by decide +kernel) (q1 := 0) (q2 := 0) (q3 := 0) (kd := 34) (N := 14) (M := 4) (T := 24) (by decide +kernel) (by decide +kernel)).trans <|
  (l_pR (show gPG 160 140 = some (.putfield 52) by decide +kernel) (kd := 13) (sl := 12) (tc := 1) (fin := 1) (z := 0) (by decide +kernel) (by decide +kernel) (by decide +kernel) jr_ref).trans <| bd_cg fun m13 hm13 =>
  (l_aload_n (show gPG 160 143 = some (.aload_n 0) by decide +kernel) rfl jr_ref).trans <|
  (l_bipush (show gPG 160 144 = some (.bipush 14) by decide +kernel) (c := 14) (by decide +kernel)).trans <|
  (l_iconst (show gPG 160 146 = some (.iconst 4) by decide +kernel) (c := 4) (by decide +kernel)).trans <|
  (l_bipush (show gPG 160 147 = some (.bipush 24) by decide +kernel) (c := 24) (by decide +kernel)).trans <|
  (l_mna3K (show gPG 160 149 = some (.multianewarray 55 3) by decide +kernel) (q1 := 0) (q2 := 0) (q3 := 0) (kd := 35) (N := 14) (M := 4) (T := 24) (by decide +kernel) (by decide +kernel)).trans <|
  (l_pR (show gPG 160 153 = some (.putfield 57) by decide +kernel) (kd := 13) (sl := 13) (tc := 1) (fin := 1) (z := 0) (by decide +kernel) (by decide +kernel) (by decide +kernel) jr_ref).trans <| bd_cg fun m14 hm14 =>
  (l_aload_n (show gPG 160 156 = some (.aload_n 0) by decide +kernel) rfl jr_ref).trans <|
  (l_bipush (show gPG 160 157 = some (.bipush 40) by decide +kernel) (c := 40) (by decide +kernel)).trans <|
  (l_newaK (show gPG 160 159 = some (.newarray .int) by decide +kernel) (kd := 20) (N := 40) rfl (by decide +kernel)).trans <|
  (l_pR (show gPG 160 161 = some (.putfield 60) by decide +kernel) (kd := 13) (sl := 15) (tc := 1) (fin := 1) (z := 0) (by decide +kernel) (by decide +kernel) (by decide +kernel) jr_ref).trans <| bd_cg fun m15 hm15 =>
  (l_aload_n (show gPG 160 164 = some (.aload_n 0) by decide +kernel) rfl jr_ref).trans <|
  (l_bipush (show gPG 160 165 = some (.bipush 80) by decide +kernel) (c := 80) (by decide +kernel)).trans <|
  (l_newaK (show gPG 160 167 = some (.newarray .int) by decide +kernel) (kd := 20) (N := 80) rfl (by decide +kernel)).trans <|
  (l_pR (show gPG 160 169 = some (.putfield 63) by decide +kernel) (kd := 13) (sl := 25) (tc := 1) (fin := 1) (z := 0) (by decide +kernel) (by decide +kernel) (by decide +kernel) jr_ref).trans <| bd_cg fun m16 hm16 =>
  (l_aload_n (show gPG 160 172 = some (.aload_n 0) by decide +kernel) rfl jr_ref).trans <|
  (l_bipush (show gPG 160 173 = some (.bipush 24) by decide +kernel) (c := 24) (by decide +kernel)).trans <|
  (l_newaK (show gPG 160 175 = some (.newarray .int) by decide +kernel) (kd := 20) (N := 24) rfl (by decide +kernel)).trans <|
  (l_pR (show gPG 160 177 = some (.putfield 66) by decide +kernel) (kd := 13) (sl := 27) (tc := 1) (fin := 1) (z := 0) (by decide +kernel) (by decide +kernel) (by decide +kernel) jr_ref).trans <| bd_cg fun m17 hm17 =>
  (l_aload_n (show gPG 160 180 = some (.aload_n 0) by decide +kernel) rfl jr_ref).trans <|
  (l_bipush (show gPG 160 181 = some (.bipush 24) by decide +kernel) (c := 24) (by decide +kernel)).trans <|
  (l_newaK (show gPG 160 183 = some (.newarray .int) by decide +kernel) (kd := 20) (N := 24) rfl (by decide +kernel)).trans <|
  (l_pR (show gPG 160 185 = some (.putfield 69) by decide +kernel) (kd := 13) (sl := 28) (tc := 1) (fin := 1) (z := 0) (by decide +kernel) (by decide +kernel) (by decide +kernel) jr_ref).trans <| bd_cg fun m18 hm18 =>
  (l_aload_n (show gPG 160 188 = some (.aload_n 0) by decide +kernel) rfl jr_ref).trans <|
  (l_bipush (show gPG 160 189 = some (.bipush 24) by decide +kernel) (c := 24) (by decide +kernel)).trans <|
  (l_newaK (show gPG 160 191 = some (.newarray .boolean) by decide +kernel) (kd := 21) (N := 24) rfl (by decide +kernel)).trans <|
  (l_pR (show gPG 160 193 = some (.putfield 72) by decide +kernel) (kd := 13) (sl := 29) (tc := 1) (fin := 1) (z := 0) (by decide +kernel) (by decide +kernel) (by decide +kernel) jr_ref).trans <| bd_cg fun m19 hm19 =>
  (l_aload_n (show gPG 160 196 = some (.aload_n 0) by decide +kernel) rfl jr_ref).trans <|
  (l_bipush (show gPG 160 197 = some (.bipush 24) by decide +kernel) (c := 24) (by decide +kernel)).trans <|
  (l_newaK (show gPG 160 199 = some (.newarray .boolean) by decide +kernel) (kd := 21) (N := 24) rfl (by decide +kernel)).trans <|
  (l_pR (show gPG 160 201 = some (.putfield 76) by decide +kernel) (kd := 13) (sl := 30) (tc := 1) (fin := 1) (z := 0) (by decide +kernel) (by decide +kernel) (by decide +kernel) jr_ref).trans <| bd_cg fun m20 hm20 =>
  (l_aload_n (show gPG 160 204 = some (.aload_n 0) by decide +kernel) rfl jr_ref).trans <|
  (l_bipush (show gPG 160 205 = some (.bipush 80) by decide +kernel) (c := 80) (by decide +kernel)).trans <|
  (l_newaK (show gPG 160 207 = some (.newarray .int) by decide +kernel) (kd := 20) (N := 80) rfl (by decide +kernel)).trans <|
  (l_pR (show gPG 160 209 = some (.putfield 79) by decide +kernel) (kd := 13) (sl := 37) (tc := 1) (fin := 1) (z := 0) (by decide +kernel) (by decide +kernel) (by decide +kernel) jr_ref).trans <| bd_cg fun m21 hm21 =>
  (l_aload_n (show gPG 160 212 = some (.aload_n 0) by decide +kernel) rfl jr_ref).trans <|
  (l_bipush (show gPG 160 213 = some (.bipush 80) by decide +kernel) (c := 80) (by decide +kernel)).trans <|
  (l_newaK (show gPG 160 215 = some (.newarray .int) by decide +kernel) (kd := 20) (N := 80) rfl (by decide +kernel)).trans <|
  (l_pR (show gPG 160 217 = some (.putfield 82) by decide +kernel) (kd := 13) (sl := 38) (tc := 1) (fin := 1) (z := 0) (by decide +kernel) (by decide +kernel) (by decide +kernel) jr_ref).trans <| bd_cg fun m22 hm22 =>
  (l_aload_n (show gPG 160 220 = some (.aload_n 0) by decide +kernel) rfl jr_ref).trans <|
  (l_bipush (show gPG 160 221 = some (.bipush 80) by decide +kernel) (c := 80) (by decide +kernel)).trans <|
  (l_newaK (show gPG 160 223 = some (.newarray .int) by decide +kernel) (kd := 20) (N := 80) rfl (by decide +kernel)).trans <|
  (l_pR (show gPG 160 225 = some (.putfield 85) by decide +kernel) (kd := 13) (sl := 39) (tc := 1) (fin := 1) (z := 0) (by decide +kernel) (by decide +kernel) (by decide +kernel) jr_ref).trans <| bd_cg fun m23 hm23 =>
  (l_aload_n (show gPG 160 228 = some (.aload_n 0) by decide +kernel) rfl jr_ref).trans <|
  (l_bipush (show gPG 160 229 = some (.bipush 80) by decide +kernel) (c := 80) (by decide +kernel)).trans <|
  (l_newaK (show gPG 160 231 = some (.newarray .boolean) by decide +kernel) (kd := 21) (N := 80) rfl (by decide +kernel)).trans <|
  (l_pR (show gPG 160 233 = some (.putfield 88) by decide +kernel) (kd := 13) (sl := 40) (tc := 1) (fin := 1) (z := 0) (by decide +kernel) (by decide +kernel) (by decide +kernel) jr_ref).trans <| bd_cg fun m24 hm24 =>
  (l_aload_n (show gPG 160 236 = some (.aload_n 0) by decide +kernel) rfl jr_ref).trans <|
  (l_sipush (show gPG 160 237 = some (.sipush 242) by decide +kernel) (c := 242) (by decide +kernel)).trans <|
  (l_newaK (show gPG 160 240 = some (.newarray .int) by decide +kernel) (kd := 20) (N := 242) rfl (by decide +kernel)).trans <|
  (l_pR (show gPG 160 242 = some (.putfield 91) by decide +kernel) (kd := 13) (sl := 41) (tc := 1) (fin := 1) (z := 0) (by decide +kernel) (by decide +kernel) (by decide +kernel) jr_ref).trans <| bd_cg fun m25 hm25 =>
  (l_aload_n (show gPG 160 245 = some (.aload_n 0) by decide +kernel) rfl jr_ref).trans <|
  (l_bipush (show gPG 160 246 = some (.bipush 80) by decide +kernel) (c := 80) (by decide +kernel)).trans <|
  (l_newaK (show gPG 160 248 = some (.newarray .boolean) by decide +kernel) (kd := 21) (N := 80) rfl (by decide +kernel)).trans <|
  (l_pR (show gPG 160 250 = some (.putfield 94) by decide +kernel) (kd := 13) (sl := 42) (tc := 1) (fin := 1) (z := 0) (by decide +kernel) (by decide +kernel) (by decide +kernel) jr_ref).trans <| bd_cg fun m26 hm26 =>
  (l_aload_n (show gPG 160 253 = some (.aload_n 0) by decide +kernel) rfl jr_ref).trans <|
  (l_bipush (show gPG 160 254 = some (.bipush 8) by decide +kernel) (c := 8) (by decide +kernel)).trans <|
  (l_newaK (show gPG 160 256 = some (.newarray .int) by decide +kernel) (kd := 20) (N := 8) rfl (by decide +kernel)).trans <|
  (l_pR (show gPG 160 258 = some (.putfield 97) by decide +kernel) (kd := 13) (sl := 44) (tc := 1) (fin := 1) (z := 0) (by decide +kernel) (by decide +kernel) (by decide +kernel) jr_ref).trans <| bd_cg fun m27 hm27 =>
  (l_aload_n (show gPG 160 261 = some (.aload_n 0) by decide +kernel) rfl jr_ref).trans <|
  (l_bipush (show gPG 160 262 = some (.bipush 24) by decide +kernel) (c := 24) (by decide +kernel)).trans <|
  (l_newaK (show gPG 160 264 = some (.newarray .int) by decide +kernel) (kd := 20) (N := 24) rfl (by decide +kernel)).trans <|
  (l_pR (show gPG 160 266 = some (.putfield 100) by decide +kernel) (kd := 13) (sl := 45) (tc := 1) (fin := 1) (z := 0) (by decide +kernel) (by decide +kernel) (by decide +kernel) jr_ref).trans <| bd_cg fun m28 hm28 =>
  (l_aload_n (show gPG 160 269 = some (.aload_n 0) by decide +kernel) rfl jr_ref).trans <|
  (l_bipush (show gPG 160 270 = some (.bipush 24) by decide +kernel) (c := 24) (by decide +kernel)).trans <|
  (l_newaK (show gPG 160 272 = some (.newarray .int) by decide +kernel) (kd := 20) (N := 24) rfl (by decide +kernel)).trans <|
  (l_pR (show gPG 160 274 = some (.putfield 103) by decide +kernel) (kd := 13) (sl := 46) (tc := 1) (fin := 1) (z := 0) (by decide +kernel) (by decide +kernel) (by decide +kernel) jr_ref).trans <| bd_cg fun m29 hm29 =>
  (l_aload_n (show gPG 160 277 = some (.aload_n 0) by decide +kernel) rfl jr_ref).trans <|
  (l_bipush (show gPG 160 278 = some (.bipush 24) by decide +kernel) (c := 24) (by decide +kernel)).trans <|
  (l_anewaK (show gPG 160 280 = some (.anewarray 106) by decide +kernel) (q1 := 0) (q2 := 0) (q3 := 20) (kd := 33) (N := 24) (by decide +kernel) (by decide +kernel)).trans <|
  (l_pR (show gPG 160 283 = some (.putfield 107) by decide +kernel) (kd := 13) (sl := 47) (tc := 1) (fin := 1) (z := 0) (by decide +kernel) (by decide +kernel) (by decide +kernel) jr_ref).trans <| bd_cg fun m30 hm30 =>
  (l_aload_n (show gPG 160 286 = some (.aload_n 0) by decide +kernel) rfl jr_ref).trans <|
  (l_bipush (show gPG 160 287 = some (.bipush 6) by decide +kernel) (c := 6) (by decide +kernel)).trans <|
  (l_newaK (show gPG 160 289 = some (.newarray .int) by decide +kernel) (kd := 20) (N := 6) rfl (by decide +kernel)).trans <|
  (l_pR (show gPG 160 291 = some (.putfield 110) by decide +kernel) (kd := 13) (sl := 51) (tc := 1) (fin := 1) (z := 0) (by decide +kernel) (by decide +kernel) (by decide +kernel) jr_ref).trans <| bd_cg fun m31 hm31 =>
  (l_aload_n (show gPG 160 294 = some (.aload_n 0) by decide +kernel) rfl jr_ref).trans <|
  (l_iconst (show gPG 160 295 = some (.iconst 4) by decide +kernel) (c := 4) (by decide +kernel)).trans <|
  (l_newaK (show gPG 160 296 = some (.newarray .int) by decide +kernel) (kd := 20) (N := 4) rfl (by decide +kernel)).trans <|
  (l_dup (show gPG 160 298 = some (.dup) by decide +kernel) (jr_cat1 jr_ref)).trans <|
  (l_iconst (show gPG 160 299 = some (.iconst 0) by decide +kernel) (c := 0) (by decide +kernel)).trans <|
  (l_iconst (show gPG 160 300 = some (.iconst (-1)) by decide +kernel) (c := (-1)) (by decide +kernel)).trans <|
  (l_iast (show gPG 160 301 = some (.iastore) by decide +kernel) ).trans <| bd_cg fun m32 hm32 =>
  (l_dup (show gPG 160 302 = some (.dup) by decide +kernel) (jr_cat1 jr_ref)).trans <|
  (l_iconst (show gPG 160 303 = some (.iconst 1) by decide +kernel) (c := 1) (by decide +kernel)).trans <|
  (l_iconst (show gPG 160 304 = some (.iconst (-1)) by decide +kernel) (c := (-1)) (by decide +kernel)).trans <|
  (l_iast (show gPG 160 305 = some (.iastore) by decide +kernel) ).trans <| bd_cg fun m33 hm33 =>
  (l_dup (show gPG 160 306 = some (.dup) by decide +kernel) (jr_cat1 jr_ref)).trans <|
  (l_iconst (show gPG 160 307 = some (.iconst 2) by decide +kernel) (c := 2) (by decide +kernel)).trans <|
  (l_iconst (show gPG 160 308 = some (.iconst (-1)) by decide +kernel) (c := (-1)) (by decide +kernel)).trans <|
  (l_iast (show gPG 160 309 = some (.iastore) by decide +kernel) ).trans <| bd_cg fun m34 hm34 =>
  (l_dup (show gPG 160 310 = some (.dup) by decide +kernel) (jr_cat1 jr_ref)).trans <|
  (l_iconst (show gPG 160 311 = some (.iconst 3) by decide +kernel) (c := 3) (by decide +kernel)).trans <|
  (l_iconst (show gPG 160 312 = some (.iconst (-1)) by decide +kernel) (c := (-1)) (by decide +kernel)).trans <|
  (l_iast (show gPG 160 313 = some (.iastore) by decide +kernel) ).trans <| bd_cg fun m35 hm35 =>
  (l_pR (show gPG 160 314 = some (.putfield 113) by decide +kernel) (kd := 13) (sl := 52) (tc := 1) (fin := 1) (z := 0) (by decide +kernel) (by decide +kernel) (by decide +kernel) jr_ref).trans <| bd_cg fun m36 hm36 =>
  (l_aload_n (show gPG 160 317 = some (.aload_n 0) by decide +kernel) rfl jr_ref).trans <|
  (l_iconst (show gPG 160 318 = some (.iconst 4) by decide +kernel) (c := 4) (by decide +kernel)).trans <|
  (l_newaK (show gPG 160 319 = some (.newarray .int) by decide +kernel) (kd := 20) (N := 4) rfl (by decide +kernel)).trans <|
  (l_pR (show gPG 160 321 = some (.putfield 116) by decide +kernel) (kd := 13) (sl := 53) (tc := 1) (fin := 1) (z := 0) (by decide +kernel) (by decide +kernel) (by decide +kernel) jr_ref).trans <| bd_cg fun m37 hm37 =>
  (l_aload_n (show gPG 160 324 = some (.aload_n 0) by decide +kernel) rfl jr_ref).trans <|
  (l_iconst (show gPG 160 325 = some (.iconst 4) by decide +kernel) (c := 4) (by decide +kernel)).trans <|
  (l_bipush (show gPG 160 326 = some (.bipush 40) by decide +kernel) (c := 40) (by decide +kernel)).trans <|
  (l_mnaK (show gPG 160 328 = some (.multianewarray 15 2) by decide +kernel) (q1 := 0) (q2 := 0) (q3 := 0) (kd := 33) (N := 4) (M := 40) (by decide +kernel) (by decide +kernel)).trans <|
  (l_pR (show gPG 160 332 = some (.putfield 119) by decide +kernel) (kd := 13) (sl := 54) (tc := 1) (fin := 1) (z := 0) (by decide +kernel) (by decide +kernel) (by decide +kernel) jr_ref).trans <| bd_cg fun m38 hm38 =>
  (l_aload_n (show gPG 160 335 = some (.aload_n 0) by decide +kernel) rfl jr_ref).trans <|
  (l_bipush (show gPG 160 336 = some (.bipush 40) by decide +kernel) (c := 40) (by decide +kernel)).trans <|
  (l_newaK (show gPG 160 338 = some (.newarray .int) by decide +kernel) (kd := 20) (N := 40) rfl (by decide +kernel)).trans <|
  (l_pR (show gPG 160 340 = some (.putfield 122) by decide +kernel) (kd := 13) (sl := 55) (tc := 1) (fin := 1) (z := 0) (by decide +kernel) (by decide +kernel) (by decide +kernel) jr_ref).trans <| bd_cg fun m39 hm39 =>
  l_ret (show gPG 160 343 = some (.return_) by decide +kernel) (by decide +kernel)
-- Ref.undo
theorem b161_0 (d : Nat) (μ : jM) (a : Nat) : jR d 161 0 [.ref a, .retAddr 0] [] μ = (jgI μ 13 14 (.ref a)).bind fun x1 => (if x1 = 0 then some (some (.int (-3)), μ) else (jgI μ 13 14 (.ref a)).bind fun x2 => (jpI μ 13 14 0 (.ref a) (x2 - 1)).bind fun m3 => jR d 161 22 [.ref a, .int 0] [] m3) :=
  (l_aload_n (show gPG 161 0 = some (.aload_n 0) by decide +kernel) rfl jr_ref).trans <|
  (l_gI (show gPG 161 1 = some (.getfield 149) by decide +kernel) (kd := 13) (sl := 14) (tc := 0) (fin := 0) (z := 0) (by decide +kernel) (by decide +kernel) (by decide +kernel)).trans <| bd_cg fun x1 hx1 =>
  (l_cmp0 (show gPG 161 4 = some (.ifCond .ne 6) by decide +kernel) (t := 10) (by decide +kernel)).trans <| jm_ne.trans <| ite_cg (
  (l_bipush (show gPG 161 7 = some (.bipush (-3)) by decide +kernel) (c := (-3)) (by decide +kernel)).trans <|
  l_iret1 (show gPG 161 9 = some (.ireturn) by decide +kernel) (by decide +kernel)) (
  (l_aload_n (show gPG 161 10 = some (.aload_n 0) by decide +kernel) rfl jr_ref).trans <|
  (l_dup (show gPG 161 11 = some (.dup) by decide +kernel) (jr_cat1 jr_ref)).trans <|
  (l_gI (show gPG 161 12 = some (.getfield 149) by decide +kernel) (kd := 13) (sl := 14) (tc := 0) (fin := 0) (z := 0) (by decide +kernel) (by decide +kernel) (by decide +kernel)).trans <| bd_cg fun x2 hx2 =>
  (l_iconst (show gPG 161 15 = some (.iconst 1) by decide +kernel) (c := 1) (by decide +kernel)).trans <|
  (l_isub (show gPG 161 16 = some (.isub) by decide +kernel) ).trans <|
  (l_pI (show gPG 161 17 = some (.putfield 149) by decide +kernel) (kd := 13) (sl := 14) (tc := 0) (fin := 0) (z := 0) (by decide +kernel) (by decide +kernel) (by decide +kernel)).trans <| bd_cg fun m3 hm3 =>
  (l_iconst (show gPG 161 20 = some (.iconst 0) by decide +kernel) (c := 0) (by decide +kernel)).trans <|
  l_istore_n (show gPG 161 21 = some (.istore_n 1) by decide +kernel) (ls := [.ref a, .retAddr 0]) (show (1 : Nat) < 2 by decide) (show _ = ([.ref a, .int 0] : List Value) from rfl))
theorem b161_22 (d : Nat) (μ : jM) (a : Nat) (i1 : Int32) : jR (d + 1) 161 22 [.ref a, .int i1] [] μ = (if i1 < 3 then (jgI μ 13 14 (.ref a)).bind fun x2 => (if jrecv μ 13 (.ref a) = true then (jC d 162 [.ref a, .int x2, .int i1] μ).bind fun p3 => jR (d + 1) 161 36 [.ref a, .int i1] (p3.1.toList ++ []) p3.2 else none) else (if jrecv μ 13 (.ref a) = true then (jC d 163 [.ref a] μ).bind fun p1 => jR (d + 1) 161 46 [.ref a, .int i1] (p1.1.toList ++ []) p1.2 else none)) :=
  (l_iload_n (show gPG 161 22 = some (.iload_n 1) by decide +kernel) rfl).trans <|
  (l_iconst (show gPG 161 23 = some (.iconst 3) by decide +kernel) (c := 3) (by decide +kernel)).trans <|
  (l_cmp (show gPG 161 24 = some (.if_icmp .ge 18) by decide +kernel) (t := 42) (by decide +kernel)).trans <| jm_ge.trans <| ite_cg (
  (l_aload_n (show gPG 161 27 = some (.aload_n 0) by decide +kernel) rfl jr_ref).trans <|
  (l_aload_n (show gPG 161 28 = some (.aload_n 0) by decide +kernel) rfl jr_ref).trans <|
  (l_gI (show gPG 161 29 = some (.getfield 149) by decide +kernel) (kd := 13) (sl := 14) (tc := 0) (fin := 0) (z := 0) (by decide +kernel) (by decide +kernel) (by decide +kernel)).trans <| bd_cg fun x2 hx2 =>
  (l_iload_n (show gPG 161 32 = some (.iload_n 1) by decide +kernel) rfl).trans <|
  l_callV (u := 1) (v := .ref a) (as := [.int x2, .int i1]) (show gPG 161 33 = some (jinvI 1 170) by decide +kernel) (by decide) (cc := 162) (na := 3) (kd := 13) (q4 := 0) (z := 10) (rest := []) (by decide +kernel) (by decide +kernel)  rfl (show (3 : Nat) ≤ 3 by decide) rfl cs0 (by decide +kernel) (cai (cai (cav jr_ref ca0)))) (
  (l_aload_n (show gPG 161 42 = some (.aload_n 0) by decide +kernel) rfl jr_ref).trans <|
  l_callV (u := 1) (v := .ref a) (as := []) (show gPG 161 43 = some (jinvI 1 160) by decide +kernel) (by decide) (cc := 163) (na := 1) (kd := 13) (q4 := 0) (z := 10) (rest := []) (by decide +kernel) (by decide +kernel)  rfl (show (1 : Nat) ≤ 1 by decide) rfl cs0 (by decide +kernel) (cav jr_ref ca0))
theorem b161_36 (d : Nat) (μ : jM) (a : Nat) (i1 : Int32) : jR d 161 36 [.ref a, .int i1] [] μ = jR d 161 22 [.ref a, .int (i1 + 1)] [] μ :=
  (l_iinc (show gPG 161 36 = some (.iinc 1 1) by decide +kernel) (c := 1) (by decide +kernel) rfl (show _ = ([.ref a, .int (i1 + 1)] : List Value) from rfl)).trans <|
  l_goto (show gPG 161 39 = some (.goto (-17)) by decide +kernel) (t := 22) (by decide +kernel)
theorem b161_46 (d : Nat) (μ : jM) (a : Nat) (u1 : Value) : jR d 161 46 [.ref a, u1] [] μ = (jgI μ 13 14 (.ref a)).bind fun x1 => some (some (.int x1), μ) :=
  (l_aload_n (show gPG 161 46 = some (.aload_n 0) by decide +kernel) rfl jr_ref).trans <|
  (l_gI (show gPG 161 47 = some (.getfield 149) by decide +kernel) (kd := 13) (sl := 14) (tc := 0) (fin := 0) (z := 0) (by decide +kernel) (by decide +kernel) (by decide +kernel)).trans <| bd_cg fun x1 hx1 =>
  l_iret1 (show gPG 161 50 = some (.ireturn) by decide +kernel) (by decide +kernel)
-- Ref.layBack
theorem b162_0 (d : Nat) (μ : jM) (a : Nat) (i1 : Int32) (i2 : Int32) : jR (d + 1) 162 0 [.ref a, .int i1, .int i2, .retAddr 0] [] μ = (jgR μ 13 0 (.ref a)).bind fun w1 => (jgR μ 13 8 (.ref a)).bind fun w2 => (jaR μ w2 i1).bind fun w3 => (jaI μ w3 i2).bind fun x4 => (jsI μ w1 i2 x4).bind fun m5 => (jgR m5 13 9 (.ref a)).bind fun w6 => (jaR m5 w6 i1).bind fun w7 => (jaR m5 w7 i2).bind fun w8 => (jgR m5 13 1 (.ref a)).bind fun w9 => (jaR m5 w9 i2).bind fun w10 => (jcp m5 w8 0 w10 0 8).bind fun m11 => (jgR m11 13 10 (.ref a)).bind fun w12 => (jaR m11 w12 i1).bind fun w13 => (jaR m11 w13 i2).bind fun w14 => (jgR m11 13 2 (.ref a)).bind fun w15 => (jaR m11 w15 i2).bind fun w16 => (jcp m11 w14 0 w16 0 24).bind fun m17 => (jgR m17 13 11 (.ref a)).bind fun w18 => (jaR m17 w18 i1).bind fun w19 => (jaR m17 w19 i2).bind fun w20 => (jgR m17 13 3 (.ref a)).bind fun w21 => (jaR m17 w21 i2).bind fun w22 => (jcp m17 w20 0 w22 0 24).bind fun m23 => (jgR m23 13 12 (.ref a)).bind fun w24 => (jaR m23 w24 i1).bind fun w25 => (jaR m23 w25 i2).bind fun w26 => (jgR m23 13 4 (.ref a)).bind fun w27 => (jaR m23 w27 i2).bind fun w28 => (jcp m23 w26 0 w28 0 24).bind fun m29 => jR (d + 1) 162 100 [.ref a, .int i1, .int i2, .int 0] [] m29 :=
  (l_aload_n (show gPG 162 0 = some (.aload_n 0) by decide +kernel) rfl jr_ref).trans <|
  (l_gR (show gPG 162 1 = some (.getfield 11) by decide +kernel) (kd := 13) (sl := 0) (tc := 1) (fin := 1) (z := 0) (by decide +kernel) (by decide +kernel) (by decide +kernel)).trans <| bd_cg fun w1 hw1 =>
  (l_iload_n (show gPG 162 4 = some (.iload_n 2) by decide +kernel) rfl).trans <|
  (l_aload_n (show gPG 162 5 = some (.aload_n 0) by decide +kernel) rfl jr_ref).trans <|
  (l_gR (show gPG 162 6 = some (.getfield 40) by decide +kernel) (kd := 13) (sl := 8) (tc := 1) (fin := 1) (z := 0) (by decide +kernel) (by decide +kernel) (by decide +kernel)).trans <| bd_cg fun w2 hw2 =>
  (l_iload_n (show gPG 162 9 = some (.iload_n 1) by decide +kernel) rfl).trans <|
  (l_aald (show gPG 162 10 = some (.aaload) by decide +kernel) ).trans <| bd_cg fun w3 hw3 =>
  (l_iload_n (show gPG 162 11 = some (.iload_n 2) by decide +kernel) rfl).trans <|
  (l_iald (show gPG 162 12 = some (.iaload) by decide +kernel) ).trans <| bd_cg fun x4 hx4 =>
  (l_iast (show gPG 162 13 = some (.iastore) by decide +kernel) ).trans <| bd_cg fun m5 hm5 =>
  (l_aload_n (show gPG 162 14 = some (.aload_n 0) by decide +kernel) rfl jr_ref).trans <|
  (l_gR (show gPG 162 15 = some (.getfield 43) by decide +kernel) (kd := 13) (sl := 9) (tc := 1) (fin := 1) (z := 0) (by decide +kernel) (by decide +kernel) (by decide +kernel)).trans <| bd_cg fun w6 hw6 =>
  (l_iload_n (show gPG 162 18 = some (.iload_n 1) by decide +kernel) rfl).trans <|
  (l_aald (show gPG 162 19 = some (.aaload) by decide +kernel) ).trans <| bd_cg fun w7 hw7 =>
  (l_iload_n (show gPG 162 20 = some (.iload_n 2) by decide +kernel) rfl).trans <|
  (l_aald (show gPG 162 21 = some (.aaload) by decide +kernel) ).trans <| bd_cg fun w8 hw8 =>
  (l_iconst (show gPG 162 22 = some (.iconst 0) by decide +kernel) (c := 0) (by decide +kernel)).trans <|
  (l_aload_n (show gPG 162 23 = some (.aload_n 0) by decide +kernel) rfl jr_ref).trans <|
  (l_gR (show gPG 162 24 = some (.getfield 17) by decide +kernel) (kd := 13) (sl := 1) (tc := 1) (fin := 1) (z := 0) (by decide +kernel) (by decide +kernel) (by decide +kernel)).trans <| bd_cg fun w9 hw9 =>
  (l_iload_n (show gPG 162 27 = some (.iload_n 2) by decide +kernel) rfl).trans <|
  (l_aald (show gPG 162 28 = some (.aaload) by decide +kernel) ).trans <| bd_cg fun w10 hw10 =>
  (l_iconst (show gPG 162 29 = some (.iconst 0) by decide +kernel) (c := 0) (by decide +kernel)).trans <|
  (l_bipush (show gPG 162 30 = some (.bipush 8) by decide +kernel) (c := 8) (by decide +kernel)).trans <|
  (l_acp (show gPG 162 32 = some (.invokestatic 143) by decide +kernel) (q3 := 99) (q4 := 0) (z := 19) (by decide +kernel) (by decide +kernel) (jr_aR hw8) (jr_aR hw10) cs0 (by decide +kernel)).trans <| bd_cg fun m11 hm11 =>
  (l_aload_n (show gPG 162 35 = some (.aload_n 0) by decide +kernel) rfl jr_ref).trans <|
  (l_gR (show gPG 162 36 = some (.getfield 46) by decide +kernel) (kd := 13) (sl := 10) (tc := 1) (fin := 1) (z := 0) (by decide +kernel) (by decide +kernel) (by decide +kernel)).trans <| bd_cg fun w12 hw12 =>
  (l_iload_n (show gPG 162 39 = some (.iload_n 1) by decide +kernel) rfl).trans <|
  (l_aald (show gPG 162 40 = some (.aaload) by decide +kernel) ).trans <| bd_cg fun w13 hw13 =>
  (l_iload_n (show gPG 162 41 = some (.iload_n 2) by decide +kernel) rfl).trans <|
  (l_aald (show gPG 162 42 = some (.aaload) by decide +kernel) ).trans <| bd_cg fun w14 hw14 =>
  (l_iconst (show gPG 162 43 = some (.iconst 0) by decide +kernel) (c := 0) (by decide +kernel)).trans <|
  (l_aload_n (show gPG 162 44 = some (.aload_n 0) by decide +kernel) rfl jr_ref).trans <|
  (l_gR (show gPG 162 45 = some (.getfield 20) by decide +kernel) (kd := 13) (sl := 2) (tc := 1) (fin := 1) (z := 0) (by decide +kernel) (by decide +kernel) (by decide +kernel)).trans <| bd_cg fun w15 hw15 =>
  (l_iload_n (show gPG 162 48 = some (.iload_n 2) by decide +kernel) rfl).trans <|
  (l_aald (show gPG 162 49 = some (.aaload) by decide +kernel) ).trans <| bd_cg fun w16 hw16 =>
  (l_iconst (show gPG 162 50 = some (.iconst 0) by decide +kernel) (c := 0) (by decide +kernel)).trans <|
  (l_bipush (show gPG 162 51 = some (.bipush 24) by decide +kernel) (c := 24) (by decide +kernel)).trans <|
  (l_acp (show gPG 162 53 = some (.invokestatic 143) by decide +kernel) (q3 := 99) (q4 := 0) (z := 19) (by decide +kernel) (by decide +kernel) (jr_aR hw14) (jr_aR hw16) cs0 (by decide +kernel)).trans <| bd_cg fun m17 hm17 =>
  (l_aload_n (show gPG 162 56 = some (.aload_n 0) by decide +kernel) rfl jr_ref).trans <|
  (l_gR (show gPG 162 57 = some (.getfield 49) by decide +kernel) (kd := 13) (sl := 11) (tc := 1) (fin := 1) (z := 0) (by decide +kernel) (by decide +kernel) (by decide +kernel)).trans <| bd_cg fun w18 hw18 =>
  (l_iload_n (show gPG 162 60 = some (.iload_n 1) by decide +kernel) rfl).trans <|
  (l_aald (show gPG 162 61 = some (.aaload) by decide +kernel) ).trans <| bd_cg fun w19 hw19 =>
  (l_iload_n (show gPG 162 62 = some (.iload_n 2) by decide +kernel) rfl).trans <|
  (l_aald (show gPG 162 63 = some (.aaload) by decide +kernel) ).trans <| bd_cg fun w20 hw20 =>
  (l_iconst (show gPG 162 64 = some (.iconst 0) by decide +kernel) (c := 0) (by decide +kernel)).trans <|
  (l_aload_n (show gPG 162 65 = some (.aload_n 0) by decide +kernel) rfl jr_ref).trans <|
  (l_gR (show gPG 162 66 = some (.getfield 23) by decide +kernel) (kd := 13) (sl := 3) (tc := 1) (fin := 1) (z := 0) (by decide +kernel) (by decide +kernel) (by decide +kernel)).trans <| bd_cg fun w21 hw21 =>
  (l_iload_n (show gPG 162 69 = some (.iload_n 2) by decide +kernel) rfl).trans <|
  (l_aald (show gPG 162 70 = some (.aaload) by decide +kernel) ).trans <| bd_cg fun w22 hw22 =>
  (l_iconst (show gPG 162 71 = some (.iconst 0) by decide +kernel) (c := 0) (by decide +kernel)).trans <|
  (l_bipush (show gPG 162 72 = some (.bipush 24) by decide +kernel) (c := 24) (by decide +kernel)).trans <|
  (l_acp (show gPG 162 74 = some (.invokestatic 143) by decide +kernel) (q3 := 99) (q4 := 0) (z := 19) (by decide +kernel) (by decide +kernel) (jr_aR hw20) (jr_aR hw22) cs0 (by decide +kernel)).trans <| bd_cg fun m23 hm23 =>
  (l_aload_n (show gPG 162 77 = some (.aload_n 0) by decide +kernel) rfl jr_ref).trans <|
  (l_gR (show gPG 162 78 = some (.getfield 52) by decide +kernel) (kd := 13) (sl := 12) (tc := 1) (fin := 1) (z := 0) (by decide +kernel) (by decide +kernel) (by decide +kernel)).trans <| bd_cg fun w24 hw24 =>
  (l_iload_n (show gPG 162 81 = some (.iload_n 1) by decide +kernel) rfl).trans <|
  (l_aald (show gPG 162 82 = some (.aaload) by decide +kernel) ).trans <| bd_cg fun w25 hw25 =>
  (l_iload_n (show gPG 162 83 = some (.iload_n 2) by decide +kernel) rfl).trans <|
  (l_aald (show gPG 162 84 = some (.aaload) by decide +kernel) ).trans <| bd_cg fun w26 hw26 =>
  (l_iconst (show gPG 162 85 = some (.iconst 0) by decide +kernel) (c := 0) (by decide +kernel)).trans <|
  (l_aload_n (show gPG 162 86 = some (.aload_n 0) by decide +kernel) rfl jr_ref).trans <|
  (l_gR (show gPG 162 87 = some (.getfield 26) by decide +kernel) (kd := 13) (sl := 4) (tc := 1) (fin := 1) (z := 0) (by decide +kernel) (by decide +kernel) (by decide +kernel)).trans <| bd_cg fun w27 hw27 =>
  (l_iload_n (show gPG 162 90 = some (.iload_n 2) by decide +kernel) rfl).trans <|
  (l_aald (show gPG 162 91 = some (.aaload) by decide +kernel) ).trans <| bd_cg fun w28 hw28 =>
  (l_iconst (show gPG 162 92 = some (.iconst 0) by decide +kernel) (c := 0) (by decide +kernel)).trans <|
  (l_bipush (show gPG 162 93 = some (.bipush 24) by decide +kernel) (c := 24) (by decide +kernel)).trans <|
  (l_acp (show gPG 162 95 = some (.invokestatic 143) by decide +kernel) (q3 := 99) (q4 := 0) (z := 19) (by decide +kernel) (by decide +kernel) (jr_aR hw26) (jr_aR hw28) cs0 (by decide +kernel)).trans <| bd_cg fun m29 hm29 =>
  (l_iconst (show gPG 162 98 = some (.iconst 0) by decide +kernel) (c := 0) (by decide +kernel)).trans <|
  l_istore_n (show gPG 162 99 = some (.istore_n 3) by decide +kernel) (ls := [.ref a, .int i1, .int i2, .retAddr 0]) (show (3 : Nat) < 4 by decide) (show _ = ([.ref a, .int i1, .int i2, .int 0] : List Value) from rfl)
theorem b162_100 (d : Nat) (μ : jM) (a : Nat) (i1 : Int32) (i2 : Int32) (i3 : Int32) : jR d 162 100 [.ref a, .int i1, .int i2, .int i3] [] μ = (if i3 < 24 then (jgR μ 13 5 (.ref a)).bind fun w1 => (jaR μ w1 i2).bind fun w2 => (jgR μ 13 13 (.ref a)).bind fun w3 => (jaR μ w3 i1).bind fun w4 => (jaR μ w4 i2).bind fun w5 => (jaR μ w5 i3).bind fun w6 => (jsR μ w2 i3 w6).bind fun m7 => jR d 162 100 [.ref a, .int i1, .int i2, .int (i3 + 1)] [] m7 else some (none, μ)) :=
  (l_iload_n (show gPG 162 100 = some (.iload_n 3) by decide +kernel) rfl).trans <|
  (l_bipush (show gPG 162 101 = some (.bipush 24) by decide +kernel) (c := 24) (by decide +kernel)).trans <|
  (l_cmp (show gPG 162 103 = some (.if_icmp .ge 27) by decide +kernel) (t := 130) (by decide +kernel)).trans <| jm_ge.trans <| ite_cg (
  (l_aload_n (show gPG 162 106 = some (.aload_n 0) by decide +kernel) rfl jr_ref).trans <|
  (l_gR (show gPG 162 107 = some (.getfield 31) by decide +kernel) (kd := 13) (sl := 5) (tc := 1) (fin := 1) (z := 0) (by decide +kernel) (by decide +kernel) (by decide +kernel)).trans <| bd_cg fun w1 hw1 =>
  (l_iload_n (show gPG 162 110 = some (.iload_n 2) by decide +kernel) rfl).trans <|
  (l_aald (show gPG 162 111 = some (.aaload) by decide +kernel) ).trans <| bd_cg fun w2 hw2 =>
  (l_iload_n (show gPG 162 112 = some (.iload_n 3) by decide +kernel) rfl).trans <|
  (l_aload_n (show gPG 162 113 = some (.aload_n 0) by decide +kernel) rfl jr_ref).trans <|
  (l_gR (show gPG 162 114 = some (.getfield 57) by decide +kernel) (kd := 13) (sl := 13) (tc := 1) (fin := 1) (z := 0) (by decide +kernel) (by decide +kernel) (by decide +kernel)).trans <| bd_cg fun w3 hw3 =>
  (l_iload_n (show gPG 162 117 = some (.iload_n 1) by decide +kernel) rfl).trans <|
  (l_aald (show gPG 162 118 = some (.aaload) by decide +kernel) ).trans <| bd_cg fun w4 hw4 =>
  (l_iload_n (show gPG 162 119 = some (.iload_n 2) by decide +kernel) rfl).trans <|
  (l_aald (show gPG 162 120 = some (.aaload) by decide +kernel) ).trans <| bd_cg fun w5 hw5 =>
  (l_iload_n (show gPG 162 121 = some (.iload_n 3) by decide +kernel) rfl).trans <|
  (l_aald (show gPG 162 122 = some (.aaload) by decide +kernel) ).trans <| bd_cg fun w6 hw6 =>
  (l_aast (show gPG 162 123 = some (.aastore) by decide +kernel) ).trans <| bd_cg fun m7 hm7 =>
  (l_iinc (show gPG 162 124 = some (.iinc 3 1) by decide +kernel) (c := 1) (by decide +kernel) rfl (show _ = ([.ref a, .int i1, .int i2, .int (i3 + 1)] : List Value) from rfl)).trans <|
  l_goto (show gPG 162 127 = some (.goto (-27)) by decide +kernel) (t := 100) (by decide +kernel)) (
  l_ret (show gPG 162 130 = some (.return_) by decide +kernel) (by decide +kernel))
-- Ref.stirs
theorem b163_0 (d : Nat) (μ : jM) (a : Nat) : jR d 163 0 [.ref a] [] μ = (jpI μ 13 35 0 (.ref a) 0).bind fun m1 => (jpI m1 13 36 2 (.ref a) 0).bind fun m2 => some (none, m2) :=
  (l_aload_n (show gPG 163 0 = some (.aload_n 0) by decide +kernel) rfl jr_ref).trans <|
  (l_iconst (show gPG 163 1 = some (.iconst 0) by decide +kernel) (c := 0) (by decide +kernel)).trans <|
  (l_pI (show gPG 163 2 = some (.putfield 163) by decide +kernel) (kd := 13) (sl := 35) (tc := 0) (fin := 0) (z := 0) (by decide +kernel) (by decide +kernel) (by decide +kernel)).trans <| bd_cg fun m1 hm1 =>
  (l_aload_n (show gPG 163 5 = some (.aload_n 0) by decide +kernel) rfl jr_ref).trans <|
  (l_iconst (show gPG 163 6 = some (.iconst 0) by decide +kernel) (c := 0) (by decide +kernel)).trans <|
  (l_pI (show gPG 163 7 = some (.putfield 166) by decide +kernel) (kd := 13) (sl := 36) (tc := 2) (fin := 0) (z := 0) (by decide +kernel) (by decide +kernel) (by decide +kernel)).trans <| bd_cg fun m2 hm2 =>
  l_ret (show gPG 163 10 = some (.return_) by decide +kernel) (by decide +kernel)
-- Ref.feed
theorem b164_0 (d : Nat) (μ : jM) (a : Nat) (i1 : Int32) (i2 : Int32) (i3 : Int32) (i4 : Int32) (i5 : Int32) (i6 : Int32) : jR (d + 1) 164 0 [.ref a, .int i1, .int i2, .int i3, .int i4, .int i5, .int i6, .retAddr 0] [] μ = (jC d 165 [.int i1, .int 1, .int 5] μ).bind fun p1 => jR (d + 1) 164 6 [.ref a, .int i1, .int i2, .int i3, .int i4, .int i5, .int i6, .retAddr 0] (p1.1.toList ++ []) p1.2 :=
  (l_iload_n (show gPG 164 0 = some (.iload_n 1) by decide +kernel) rfl).trans <|
  (l_iconst (show gPG 164 1 = some (.iconst 1) by decide +kernel) (c := 1) (by decide +kernel)).trans <|
  (l_iconst (show gPG 164 2 = some (.iconst 5) by decide +kernel) (c := 5) (by decide +kernel)).trans <|
  l_callS (u := 2) (as := [.int i1, .int 1, .int 5]) (show gPG 164 3 = some (jinvI 2 125) by decide +kernel) (by decide) (cc := 165) (na := 3) (q4 := 0) (z := 12) (rest := []) (by decide +kernel) (by decide +kernel)  rfl (show (3 : Nat) ≤ 3 by decide) rfl cs0 (by decide +kernel) (cai (cai (cai ca0))) (fun e => absurd e (by decide))
theorem b164_6 (d : Nat) (μ : jM) (a : Nat) (i1 : Int32) (i2 : Int32) (i3 : Int32) (i4 : Int32) (i5 : Int32) (i6 : Int32) (u7 : Value) (s0 : Int32) : jR (d + 1) 164 6 [.ref a, .int i1, .int i2, .int i3, .int i4, .int i5, .int i6, u7] [.int s0] μ = (if s0 = 0 then jR (d + 1) 164 47 [.ref a, .int i1, .int i2, .int i3, .int i4, .int i5, .int i6, u7] [] μ else (jC d 166 [.int i2] μ).bind fun p1 => jR (d + 1) 164 13 [.ref a, .int i1, .int i2, .int i3, .int i4, .int i5, .int i6, u7] (p1.1.toList ++ []) p1.2) :=
  (l_cmp0 (show gPG 164 6 = some (.ifCond .eq 41) by decide +kernel) (t := 47) (by decide +kernel)).trans <| jm_eq.trans <| ite_cg (
  rfl) (
  (l_iload_n (show gPG 164 9 = some (.iload_n 2) by decide +kernel) rfl).trans <|
  l_callS (u := 2) (as := [.int i2]) (show gPG 164 10 = some (jinvI 2 173) by decide +kernel) (by decide) (cc := 166) (na := 1) (q4 := 0) (z := 12) (rest := []) (by decide +kernel) (by decide +kernel)  rfl (show (1 : Nat) ≤ 1 by decide) rfl cs0 (by decide +kernel) (cai ca0) (fun e => absurd e (by decide)))
theorem b164_13 (d : Nat) (μ : jM) (a : Nat) (i1 : Int32) (i2 : Int32) (i3 : Int32) (i4 : Int32) (i5 : Int32) (i6 : Int32) (u7 : Value) (s0 : Int32) : jR (d + 1) 164 13 [.ref a, .int i1, .int i2, .int i3, .int i4, .int i5, .int i6, u7] [.int s0] μ = (if s0 = 0 then jR (d + 1) 164 47 [.ref a, .int i1, .int i2, .int i3, .int i4, .int i5, .int i6, u7] [] μ else (jC d 166 [.int i3] μ).bind fun p1 => jR (d + 1) 164 20 [.ref a, .int i1, .int i2, .int i3, .int i4, .int i5, .int i6, u7] (p1.1.toList ++ []) p1.2) :=
  (l_cmp0 (show gPG 164 13 = some (.ifCond .eq 34) by decide +kernel) (t := 47) (by decide +kernel)).trans <| jm_eq.trans <| ite_cg (
  rfl) (
  (l_iload_n (show gPG 164 16 = some (.iload_n 3) by decide +kernel) rfl).trans <|
  l_callS (u := 2) (as := [.int i3]) (show gPG 164 17 = some (jinvI 2 173) by decide +kernel) (by decide) (cc := 166) (na := 1) (q4 := 0) (z := 12) (rest := []) (by decide +kernel) (by decide +kernel)  rfl (show (1 : Nat) ≤ 1 by decide) rfl cs0 (by decide +kernel) (cai ca0) (fun e => absurd e (by decide)))
theorem b164_20 (d : Nat) (μ : jM) (a : Nat) (i1 : Int32) (i2 : Int32) (i3 : Int32) (i4 : Int32) (i5 : Int32) (i6 : Int32) (u7 : Value) (s0 : Int32) : jR (d + 1) 164 20 [.ref a, .int i1, .int i2, .int i3, .int i4, .int i5, .int i6, u7] [.int s0] μ = (if s0 = 0 then jR (d + 1) 164 47 [.ref a, .int i1, .int i2, .int i3, .int i4, .int i5, .int i6, u7] [] μ else (jC d 166 [.int i4] μ).bind fun p1 => jR (d + 1) 164 28 [.ref a, .int i1, .int i2, .int i3, .int i4, .int i5, .int i6, u7] (p1.1.toList ++ []) p1.2) :=
  (l_cmp0 (show gPG 164 20 = some (.ifCond .eq 27) by decide +kernel) (t := 47) (by decide +kernel)).trans <| jm_eq.trans <| ite_cg (
  rfl) (
  (l_iload (show gPG 164 23 = some (.iload 4) by decide +kernel) rfl).trans <|
  l_callS (u := 2) (as := [.int i4]) (show gPG 164 25 = some (jinvI 2 173) by decide +kernel) (by decide) (cc := 166) (na := 1) (q4 := 0) (z := 12) (rest := []) (by decide +kernel) (by decide +kernel)  rfl (show (1 : Nat) ≤ 1 by decide) rfl cs0 (by decide +kernel) (cai ca0) (fun e => absurd e (by decide)))
theorem b164_28 (d : Nat) (μ : jM) (a : Nat) (i1 : Int32) (i2 : Int32) (i3 : Int32) (i4 : Int32) (i5 : Int32) (i6 : Int32) (u7 : Value) (s0 : Int32) : jR (d + 1) 164 28 [.ref a, .int i1, .int i2, .int i3, .int i4, .int i5, .int i6, u7] [.int s0] μ = (if s0 = 0 then jR (d + 1) 164 47 [.ref a, .int i1, .int i2, .int i3, .int i4, .int i5, .int i6, u7] [] μ else (jC d 166 [.int i5] μ).bind fun p1 => jR (d + 1) 164 36 [.ref a, .int i1, .int i2, .int i3, .int i4, .int i5, .int i6, u7] (p1.1.toList ++ []) p1.2) :=
  (l_cmp0 (show gPG 164 28 = some (.ifCond .eq 19) by decide +kernel) (t := 47) (by decide +kernel)).trans <| jm_eq.trans <| ite_cg (
  rfl) (
  (l_iload (show gPG 164 31 = some (.iload 5) by decide +kernel) rfl).trans <|
  l_callS (u := 2) (as := [.int i5]) (show gPG 164 33 = some (jinvI 2 173) by decide +kernel) (by decide) (cc := 166) (na := 1) (q4 := 0) (z := 12) (rest := []) (by decide +kernel) (by decide +kernel)  rfl (show (1 : Nat) ≤ 1 by decide) rfl cs0 (by decide +kernel) (cai ca0) (fun e => absurd e (by decide)))
theorem b164_36 (d : Nat) (μ : jM) (a : Nat) (i1 : Int32) (i2 : Int32) (i3 : Int32) (i4 : Int32) (i5 : Int32) (i6 : Int32) (u7 : Value) (s0 : Int32) : jR (d + 1) 164 36 [.ref a, .int i1, .int i2, .int i3, .int i4, .int i5, .int i6, u7] [.int s0] μ = (if s0 = 0 then jR (d + 1) 164 47 [.ref a, .int i1, .int i2, .int i3, .int i4, .int i5, .int i6, u7] [] μ else (jC d 166 [.int i6] μ).bind fun p1 => jR (d + 1) 164 44 [.ref a, .int i1, .int i2, .int i3, .int i4, .int i5, .int i6, u7] (p1.1.toList ++ []) p1.2) :=
  (l_cmp0 (show gPG 164 36 = some (.ifCond .eq 11) by decide +kernel) (t := 47) (by decide +kernel)).trans <| jm_eq.trans <| ite_cg (
  rfl) (
  (l_iload (show gPG 164 39 = some (.iload 6) by decide +kernel) rfl).trans <|
  l_callS (u := 2) (as := [.int i6]) (show gPG 164 41 = some (jinvI 2 173) by decide +kernel) (by decide) (cc := 166) (na := 1) (q4 := 0) (z := 12) (rest := []) (by decide +kernel) (by decide +kernel)  rfl (show (1 : Nat) ≤ 1 by decide) rfl cs0 (by decide +kernel) (cai ca0) (fun e => absurd e (by decide)))
theorem b164_44 (d : Nat) (μ : jM) (a : Nat) (i1 : Int32) (i2 : Int32) (i3 : Int32) (i4 : Int32) (i5 : Int32) (i6 : Int32) (u7 : Value) (s0 : Int32) : jR d 164 44 [.ref a, .int i1, .int i2, .int i3, .int i4, .int i5, .int i6, u7] [.int s0] μ = (if s0 = 0 then jR d 164 47 [.ref a, .int i1, .int i2, .int i3, .int i4, .int i5, .int i6, u7] [] μ else (jgI μ 13 16 (.ref a)).bind fun x1 => (if 40 < (x1 + i1) then some (some (.int (-4)), μ) else jR d 164 67 [.ref a, .int i1, .int i2, .int i3, .int i4, .int i5, .int i6, .int 0] [] μ)) :=
  (l_cmp0 (show gPG 164 44 = some (.ifCond .ne 6) by decide +kernel) (t := 50) (by decide +kernel)).trans <| jm_ne.trans <| ite_cg (
  rfl) (
  (l_aload_n (show gPG 164 50 = some (.aload_n 0) by decide +kernel) rfl jr_ref).trans <|
  (l_gI (show gPG 164 51 = some (.getfield 176) by decide +kernel) (kd := 13) (sl := 16) (tc := 0) (fin := 0) (z := 0) (by decide +kernel) (by decide +kernel) (by decide +kernel)).trans <| bd_cg fun x1 hx1 =>
  (l_iload_n (show gPG 164 54 = some (.iload_n 1) by decide +kernel) rfl).trans <|
  (l_iadd (show gPG 164 55 = some (.iadd) by decide +kernel) ).trans <|
  (l_bipush (show gPG 164 56 = some (.bipush 40) by decide +kernel) (c := 40) (by decide +kernel)).trans <|
  (l_cmp (show gPG 164 58 = some (.if_icmp .le 6) by decide +kernel) (t := 64) (by decide +kernel)).trans <| jm_le.trans <| ite_cg (
  (l_bipush (show gPG 164 61 = some (.bipush (-4)) by decide +kernel) (c := (-4)) (by decide +kernel)).trans <|
  l_iret1 (show gPG 164 63 = some (.ireturn) by decide +kernel) (by decide +kernel)) (
  (l_iconst (show gPG 164 64 = some (.iconst 0) by decide +kernel) (c := 0) (by decide +kernel)).trans <|
  l_istore (show gPG 164 65 = some (.istore 7) by decide +kernel) (ls := [.ref a, .int i1, .int i2, .int i3, .int i4, .int i5, .int i6, u7]) (show (7 : Nat) < 8 by decide) (show _ = ([.ref a, .int i1, .int i2, .int i3, .int i4, .int i5, .int i6, .int 0] : List Value) from rfl)))
theorem b164_47 (d : Nat) (μ : jM) (u0 : Value) (u1 : Value) (u2 : Value) (u3 : Value) (u4 : Value) (u5 : Value) (u6 : Value) (u7 : Value) : jR d 164 47 [u0, u1, u2, u3, u4, u5, u6, u7] [] μ = some (some (.int (-2)), μ) :=
  (l_bipush (show gPG 164 47 = some (.bipush (-2)) by decide +kernel) (c := (-2)) (by decide +kernel)).trans <|
  l_iret1 (show gPG 164 49 = some (.ireturn) by decide +kernel) (by decide +kernel)
theorem b164_67 (d : Nat) (μ : jM) (a : Nat) (i1 : Int32) (i2 : Int32) (i3 : Int32) (i4 : Int32) (i5 : Int32) (i6 : Int32) (i7 : Int32) : jR d 164 67 [.ref a, .int i1, .int i2, .int i3, .int i4, .int i5, .int i6, .int i7] [] μ = (if i7 < i1 then (jgR μ 13 15 (.ref a)).bind fun w4 => (jgI μ 13 16 (.ref a)).bind fun x5 => (if i7 = 0 then jR d 164 127 [.ref a, .int i1, .int i2, .int i3, .int i4, .int i5, .int i6, .int i7] [.int i2, .int (x5 + i7), w4] μ else (if i7 = 1 then jR d 164 127 [.ref a, .int i1, .int i2, .int i3, .int i4, .int i5, .int i6, .int i7] [.int i3, .int (x5 + i7), w4] μ else (if i7 = 2 then jR d 164 127 [.ref a, .int i1, .int i2, .int i3, .int i4, .int i5, .int i6, .int i7] [.int i4, .int (x5 + i7), w4] μ else (if i7 = 3 then jR d 164 127 [.ref a, .int i1, .int i2, .int i3, .int i4, .int i5, .int i6, .int i7] [.int i5, .int (x5 + i7), w4] μ else jR d 164 127 [.ref a, .int i1, .int i2, .int i3, .int i4, .int i5, .int i6, .int i7] [.int i6, .int (x5 + i7), w4] μ)))) else (jgI μ 13 16 (.ref a)).bind fun x1 => (jpI μ 13 16 0 (.ref a) (x1 + i1)).bind fun m2 => (jgI m2 13 16 (.ref a)).bind fun x3 => some (some (.int x3), m2)) :=
  (l_iload (show gPG 164 67 = some (.iload 7) by decide +kernel) rfl).trans <|
  (l_iload_n (show gPG 164 69 = some (.iload_n 1) by decide +kernel) rfl).trans <|
  (l_cmp (show gPG 164 70 = some (.if_icmp .ge 64) by decide +kernel) (t := 134) (by decide +kernel)).trans <| jm_ge.trans <| ite_cg (
  (l_aload_n (show gPG 164 73 = some (.aload_n 0) by decide +kernel) rfl jr_ref).trans <|
  (l_gR (show gPG 164 74 = some (.getfield 60) by decide +kernel) (kd := 13) (sl := 15) (tc := 1) (fin := 1) (z := 0) (by decide +kernel) (by decide +kernel) (by decide +kernel)).trans <| bd_cg fun w4 hw4 =>
  (l_aload_n (show gPG 164 77 = some (.aload_n 0) by decide +kernel) rfl jr_ref).trans <|
  (l_gI (show gPG 164 78 = some (.getfield 176) by decide +kernel) (kd := 13) (sl := 16) (tc := 0) (fin := 0) (z := 0) (by decide +kernel) (by decide +kernel) (by decide +kernel)).trans <| bd_cg fun x5 hx5 =>
  (l_iload (show gPG 164 81 = some (.iload 7) by decide +kernel) rfl).trans <|
  (l_iadd (show gPG 164 83 = some (.iadd) by decide +kernel) ).trans <|
  (l_iload (show gPG 164 84 = some (.iload 7) by decide +kernel) rfl).trans <|
  (l_cmp0 (show gPG 164 86 = some (.ifCond .ne 7) by decide +kernel) (t := 93) (by decide +kernel)).trans <| jm_ne.trans <| ite_cg (
  (l_iload_n (show gPG 164 89 = some (.iload_n 2) by decide +kernel) rfl).trans <|
  l_goto (show gPG 164 90 = some (.goto 37) by decide +kernel) (t := 127) (by decide +kernel)) (
  (l_iload (show gPG 164 93 = some (.iload 7) by decide +kernel) rfl).trans <|
  (l_iconst (show gPG 164 95 = some (.iconst 1) by decide +kernel) (c := 1) (by decide +kernel)).trans <|
  (l_cmp (show gPG 164 96 = some (.if_icmp .ne 7) by decide +kernel) (t := 103) (by decide +kernel)).trans <| jm_ne.trans <| ite_cg (
  (l_iload_n (show gPG 164 99 = some (.iload_n 3) by decide +kernel) rfl).trans <|
  l_goto (show gPG 164 100 = some (.goto 27) by decide +kernel) (t := 127) (by decide +kernel)) (
  (l_iload (show gPG 164 103 = some (.iload 7) by decide +kernel) rfl).trans <|
  (l_iconst (show gPG 164 105 = some (.iconst 2) by decide +kernel) (c := 2) (by decide +kernel)).trans <|
  (l_cmp (show gPG 164 106 = some (.if_icmp .ne 8) by decide +kernel) (t := 114) (by decide +kernel)).trans <| jm_ne.trans <| ite_cg (
  (l_iload (show gPG 164 109 = some (.iload 4) by decide +kernel) rfl).trans <|
  l_goto (show gPG 164 111 = some (.goto 16) by decide +kernel) (t := 127) (by decide +kernel)) (
  (l_iload (show gPG 164 114 = some (.iload 7) by decide +kernel) rfl).trans <|
  (l_iconst (show gPG 164 116 = some (.iconst 3) by decide +kernel) (c := 3) (by decide +kernel)).trans <|
  (l_cmp (show gPG 164 117 = some (.if_icmp .ne 8) by decide +kernel) (t := 125) (by decide +kernel)).trans <| jm_ne.trans <| ite_cg (
  (l_iload (show gPG 164 120 = some (.iload 5) by decide +kernel) rfl).trans <|
  l_goto (show gPG 164 122 = some (.goto 5) by decide +kernel) (t := 127) (by decide +kernel)) (
  l_iload (show gPG 164 125 = some (.iload 6) by decide +kernel) rfl))))) (
  (l_aload_n (show gPG 164 134 = some (.aload_n 0) by decide +kernel) rfl jr_ref).trans <|
  (l_dup (show gPG 164 135 = some (.dup) by decide +kernel) (jr_cat1 jr_ref)).trans <|
  (l_gI (show gPG 164 136 = some (.getfield 176) by decide +kernel) (kd := 13) (sl := 16) (tc := 0) (fin := 0) (z := 0) (by decide +kernel) (by decide +kernel) (by decide +kernel)).trans <| bd_cg fun x1 hx1 =>
  (l_iload_n (show gPG 164 139 = some (.iload_n 1) by decide +kernel) rfl).trans <|
  (l_iadd (show gPG 164 140 = some (.iadd) by decide +kernel) ).trans <|
  (l_pI (show gPG 164 141 = some (.putfield 176) by decide +kernel) (kd := 13) (sl := 16) (tc := 0) (fin := 0) (z := 0) (by decide +kernel) (by decide +kernel) (by decide +kernel)).trans <| bd_cg fun m2 hm2 =>
  (l_aload_n (show gPG 164 144 = some (.aload_n 0) by decide +kernel) rfl jr_ref).trans <|
  (l_gI (show gPG 164 145 = some (.getfield 176) by decide +kernel) (kd := 13) (sl := 16) (tc := 0) (fin := 0) (z := 0) (by decide +kernel) (by decide +kernel) (by decide +kernel)).trans <| bd_cg fun x3 hx3 =>
  l_iret1 (show gPG 164 148 = some (.ireturn) by decide +kernel) (by decide +kernel))
theorem b164_127 (d : Nat) (μ : jM) (a : Nat) (i1 : Int32) (i2 : Int32) (i3 : Int32) (i4 : Int32) (i5 : Int32) (i6 : Int32) (i7 : Int32) (s0 : Value) (s1 : Int32) (s2 : Int32) (hs0 : jisref s0 = true) : jR d 164 127 [.ref a, .int i1, .int i2, .int i3, .int i4, .int i5, .int i6, .int i7] [.int s2, .int s1, s0] μ = (jsI μ s0 s1 s2).bind fun m1 => jR d 164 67 [.ref a, .int i1, .int i2, .int i3, .int i4, .int i5, .int i6, .int (i7 + 1)] [] m1 :=
  (l_iast (show gPG 164 127 = some (.iastore) by decide +kernel) ).trans <| bd_cg fun m1 hm1 =>
  (l_iinc (show gPG 164 128 = some (.iinc 7 1) by decide +kernel) (c := 1) (by decide +kernel) rfl (show _ = ([.ref a, .int i1, .int i2, .int i3, .int i4, .int i5, .int i6, .int (i7 + 1)] : List Value) from rfl)).trans <|
  l_goto (show gPG 164 131 = some (.goto (-64)) by decide +kernel) (t := 67) (by decide +kernel)
-- Ref.in
theorem b165_0 (d : Nat) (μ : jM) (i0 : Int32) (i1 : Int32) (i2 : Int32) : jR d 165 0 [.int i0, .int i1, .int i2] [] μ = (if i0 < i1 then jR d 165 14 [.int i0, .int i1, .int i2] [] μ else (if i2 < i0 then jR d 165 14 [.int i0, .int i1, .int i2] [] μ else jR d 165 15 [.int i0, .int i1, .int i2] [.int 1] μ)) :=
  (l_iload_n (show gPG 165 0 = some (.iload_n 0) by decide +kernel) rfl).trans <|
  (l_iload_n (show gPG 165 1 = some (.iload_n 1) by decide +kernel) rfl).trans <|
  (l_cmp (show gPG 165 2 = some (.if_icmp .lt 12) by decide +kernel) (t := 14) (by decide +kernel)).trans <| jm_lt.trans <| ite_cg (
  rfl) (
  (l_iload_n (show gPG 165 5 = some (.iload_n 0) by decide +kernel) rfl).trans <|
  (l_iload_n (show gPG 165 6 = some (.iload_n 2) by decide +kernel) rfl).trans <|
  (l_cmp (show gPG 165 7 = some (.if_icmp .gt 7) by decide +kernel) (t := 14) (by decide +kernel)).trans <| jm_gt.trans <| ite_cg (
  rfl) (
  (l_iconst (show gPG 165 10 = some (.iconst 1) by decide +kernel) (c := 1) (by decide +kernel)).trans <|
  l_goto (show gPG 165 11 = some (.goto 4) by decide +kernel) (t := 15) (by decide +kernel)))
theorem b165_14 (d : Nat) (μ : jM) (u0 : Value) (u1 : Value) (u2 : Value) : jR d 165 14 [u0, u1, u2] [] μ = jR d 165 15 [u0, u1, u2] [.int 0] μ :=
  l_iconst (show gPG 165 14 = some (.iconst 0) by decide +kernel) (c := 0) (by decide +kernel)
theorem b165_15 (d : Nat) (μ : jM) (u0 : Value) (u1 : Value) (u2 : Value) (s0 : Int32) : jR d 165 15 [u0, u1, u2] [.int s0] μ = (if jrf 4 s0 = true then some (some (.int s0), μ) else none) :=
  l_iret (show gPG 165 15 = some (.ireturn) by decide +kernel) (rc := 4) (by decide +kernel)
-- Ref.isByte
theorem b166_0 (d : Nat) (μ : jM) (i0 : Int32) : jR (d + 1) 166 0 [.int i0] [] μ = (jC d 165 [.int i0, .int 0, .int 255] μ).bind fun p1 => jR (d + 1) 166 8 [.int i0] (p1.1.toList ++ []) p1.2 :=
  (l_iload_n (show gPG 166 0 = some (.iload_n 0) by decide +kernel) rfl).trans <|
  (l_iconst (show gPG 166 1 = some (.iconst 0) by decide +kernel) (c := 0) (by decide +kernel)).trans <|
  (l_sipush (show gPG 166 2 = some (.sipush 255) by decide +kernel) (c := 255) (by decide +kernel)).trans <|
  l_callS (u := 2) (as := [.int i0, .int 0, .int 255]) (show gPG 166 5 = some (jinvI 2 125) by decide +kernel) (by decide) (cc := 165) (na := 3) (q4 := 0) (z := 12) (rest := []) (by decide +kernel) (by decide +kernel)  rfl (show (3 : Nat) ≤ 3 by decide) rfl cs0 (by decide +kernel) (cai (cai (cai ca0))) (fun e => absurd e (by decide))
theorem b166_8 (d : Nat) (μ : jM) (u0 : Value) (s0 : Int32) : jR d 166 8 [u0] [.int s0] μ = (if jrf 4 s0 = true then some (some (.int s0), μ) else none) :=
  l_iret (show gPG 166 8 = some (.ireturn) by decide +kernel) (rc := 4) (by decide +kernel)
-- Ref.write
theorem b167_0 (d : Nat) (μ : jM) (a : Nat) (i1 : Int32) (i2 : Int32) (i3 : Int32) : jR (d + 1) 167 0 [.ref a, .int i1, .int i2, .int i3, .retAddr 0, .retAddr 0] [] μ = (jC d 168 [.int i1] μ).bind fun p1 => jR (d + 1) 167 4 [.ref a, .int i1, .int i2, .int i3, .retAddr 0, .retAddr 0] (p1.1.toList ++ []) p1.2 :=
  (l_iload_n (show gPG 167 0 = some (.iload_n 1) by decide +kernel) rfl).trans <|
  l_callS (u := 2) (as := [.int i1]) (show gPG 167 1 = some (jinvI 2 282) by decide +kernel) (by decide) (cc := 168) (na := 1) (q4 := 0) (z := 12) (rest := []) (by decide +kernel) (by decide +kernel)  rfl (show (1 : Nat) ≤ 1 by decide) rfl cs0 (by decide +kernel) (cai ca0) (fun e => absurd e (by decide))
theorem b167_4 (d : Nat) (μ : jM) (a : Nat) (i1 : Int32) (i2 : Int32) (i3 : Int32) (u4 : Value) (u5 : Value) (s0 : Int32) : jR (d + 1) 167 4 [.ref a, .int i1, .int i2, .int i3, u4, u5] [.int s0] μ = (if s0 = 0 then jR (d + 1) 167 17 [.ref a, .int i1, .int i2, .int i3, u4, u5] [] μ else (if jrecv μ 13 (.ref a) = true then (jC d 169 [.ref a, .int i1, .int i2, .int i3] μ).bind fun p1 => jR (d + 1) 167 14 [.ref a, .int i1, .int i2, .int i3, u4, u5] (p1.1.toList ++ []) p1.2 else none)) :=
  (l_cmp0 (show gPG 167 4 = some (.ifCond .eq 13) by decide +kernel) (t := 17) (by decide +kernel)).trans <| jm_eq.trans <| ite_cg (
  rfl) (
  (l_aload_n (show gPG 167 7 = some (.aload_n 0) by decide +kernel) rfl jr_ref).trans <|
  (l_iload_n (show gPG 167 8 = some (.iload_n 1) by decide +kernel) rfl).trans <|
  (l_iload_n (show gPG 167 9 = some (.iload_n 2) by decide +kernel) rfl).trans <|
  (l_iload_n (show gPG 167 10 = some (.iload_n 3) by decide +kernel) rfl).trans <|
  l_callV (u := 1) (v := .ref a) (as := [.int i1, .int i2, .int i3]) (show gPG 167 11 = some (jinvI 1 285) by decide +kernel) (by decide) (cc := 169) (na := 4) (kd := 13) (q4 := 0) (z := 10) (rest := []) (by decide +kernel) (by decide +kernel)  rfl (show (4 : Nat) ≤ 4 by decide) rfl cs0 (by decide +kernel) (cai (cai (cai (cav jr_ref ca0)))))
theorem b167_14 (d : Nat) (μ : jM) (a : Nat) (i1 : Int32) (i2 : Int32) (i3 : Int32) (u4 : Value) (u5 : Value) (s0 : Int32) : jR (d + 1) 167 14 [.ref a, .int i1, .int i2, .int i3, u4, u5] [.int s0] μ = (if s0 = 0 then jR (d + 1) 167 17 [.ref a, .int i1, .int i2, .int i3, u4, u5] [] μ else (jpI μ 13 24 0 (.ref a) i1).bind fun m1 => (if jrecv m1 13 (.ref a) = true then (jC d 172 [.ref a] m1).bind fun p2 => jR (d + 1) 167 29 [.ref a, .int i1, .int i2, .int i3, u4, u5] (p2.1.toList ++ []) p2.2 else none)) :=
  (l_cmp0 (show gPG 167 14 = some (.ifCond .ne 6) by decide +kernel) (t := 20) (by decide +kernel)).trans <| jm_ne.trans <| ite_cg (
  rfl) (
  (l_aload_n (show gPG 167 20 = some (.aload_n 0) by decide +kernel) rfl jr_ref).trans <|
  (l_iload_n (show gPG 167 21 = some (.iload_n 1) by decide +kernel) rfl).trans <|
  (l_pI (show gPG 167 22 = some (.putfield 250) by decide +kernel) (kd := 13) (sl := 24) (tc := 0) (fin := 0) (z := 0) (by decide +kernel) (by decide +kernel) (by decide +kernel)).trans <| bd_cg fun m1 hm1 =>
  (l_aload_n (show gPG 167 25 = some (.aload_n 0) by decide +kernel) rfl jr_ref).trans <|
  l_callV (u := 1) (v := .ref a) (as := []) (show gPG 167 26 = some (jinvI 1 288) by decide +kernel) (by decide) (cc := 172) (na := 1) (kd := 13) (q4 := 0) (z := 10) (rest := []) (by decide +kernel) (by decide +kernel)  rfl (show (1 : Nat) ≤ 1 by decide) rfl cs0 (by decide +kernel) (cav jr_ref ca0))
theorem b167_17 (d : Nat) (μ : jM) (u0 : Value) (u1 : Value) (u2 : Value) (u3 : Value) (u4 : Value) (u5 : Value) : jR d 167 17 [u0, u1, u2, u3, u4, u5] [] μ = some (some (.int (-2)), μ) :=
  (l_bipush (show gPG 167 17 = some (.bipush (-2)) by decide +kernel) (c := (-2)) (by decide +kernel)).trans <|
  l_iret1 (show gPG 167 19 = some (.ireturn) by decide +kernel) (by decide +kernel)
theorem b167_29 (d : Nat) (μ : jM) (a : Nat) (i1 : Int32) (i2 : Int32) (i3 : Int32) (u4 : Value) (u5 : Value) (s0 : Int32) : jR (d + 1) 167 29 [.ref a, .int i1, .int i2, .int i3, u4, u5] [.int s0] μ = (jgI μ 13 22 (.ref a)).bind fun x1 => (if x1 = 0 then (if jrecv μ 13 (.ref a) = true then (jC d 189 [.ref a] μ).bind fun p2 => jR (d + 1) 167 50 [.ref a, .int i1, .int i2, .int i3, .int s0, u5] (p2.1.toList ++ []) p2.2 else none) else (jgI μ 13 18 (.ref a)).bind fun x3 => some (some (.int ((-100) - x3)), μ)) :=
  (l_istore (show gPG 167 29 = some (.istore 4) by decide +kernel) (ls := [.ref a, .int i1, .int i2, .int i3, u4, u5]) (show (4 : Nat) < 6 by decide) (show _ = ([.ref a, .int i1, .int i2, .int i3, .int s0, u5] : List Value) from rfl)).trans <|
  (l_aload_n (show gPG 167 31 = some (.aload_n 0) by decide +kernel) rfl jr_ref).trans <|
  (l_gI (show gPG 167 32 = some (.getfield 221) by decide +kernel) (kd := 13) (sl := 22) (tc := 2) (fin := 0) (z := 0) (by decide +kernel) (by decide +kernel) (by decide +kernel)).trans <| bd_cg fun x1 hx1 =>
  (l_cmp0 (show gPG 167 35 = some (.ifCond .eq 11) by decide +kernel) (t := 46) (by decide +kernel)).trans <| jm_eq.trans <| ite_cg (
  (l_aload_n (show gPG 167 46 = some (.aload_n 0) by decide +kernel) rfl jr_ref).trans <|
  l_callV (u := 1) (v := .ref a) (as := []) (show gPG 167 47 = some (jinvI 1 291) by decide +kernel) (by decide) (cc := 189) (na := 1) (kd := 13) (q4 := 0) (z := 10) (rest := []) (by decide +kernel) (by decide +kernel)  rfl (show (1 : Nat) ≤ 1 by decide) rfl cs0 (by decide +kernel) (cav jr_ref ca0)) (
  (l_bipush (show gPG 167 38 = some (.bipush (-100)) by decide +kernel) (c := (-100)) (by decide +kernel)).trans <|
  (l_aload_n (show gPG 167 40 = some (.aload_n 0) by decide +kernel) rfl jr_ref).trans <|
  (l_gI (show gPG 167 41 = some (.getfield 188) by decide +kernel) (kd := 13) (sl := 18) (tc := 0) (fin := 0) (z := 0) (by decide +kernel) (by decide +kernel) (by decide +kernel)).trans <| bd_cg fun x3 hx3 =>
  (l_isub (show gPG 167 44 = some (.isub) by decide +kernel) ).trans <|
  l_iret1 (show gPG 167 45 = some (.ireturn) by decide +kernel) (by decide +kernel))
theorem b167_50 (d : Nat) (μ : jM) (a : Nat) (i1 : Int32) (i2 : Int32) (i3 : Int32) (i4 : Int32) (u5 : Value) : jR (d + 1) 167 50 [.ref a, .int i1, .int i2, .int i3, .int i4, u5] [] μ = (jgI μ 13 23 (.ref a)).bind fun x1 => (jnA μ 20 x1).bind fun p2 => (jgR p2.2 13 25 (.ref a)).bind fun w3 => (jgI p2.2 13 23 (.ref a)).bind fun x4 => (jcp p2.2 w3 0 p2.1 0 x4).bind fun m5 => (jgI m5 13 26 (.ref a)).bind fun x6 => (if jrecv m5 13 (.ref a) = true then (jC d 192 [.ref a, .int i1, .int ((3 * i2) + i3), .int i4, .int x6, p2.1] m5).bind fun p7 => jR (d + 1) 167 91 [.ref a, .int i1, .int i2, .int i3, .int i4, p2.1] (p7.1.toList ++ []) p7.2 else none) :=
  (l_aload_n (show gPG 167 50 = some (.aload_n 0) by decide +kernel) rfl jr_ref).trans <|
  (l_gI (show gPG 167 51 = some (.getfield 235) by decide +kernel) (kd := 13) (sl := 23) (tc := 0) (fin := 0) (z := 0) (by decide +kernel) (by decide +kernel) (by decide +kernel)).trans <| bd_cg fun x1 hx1 =>
  (l_newa (show gPG 167 54 = some (.newarray .int) by decide +kernel) (kd := 20) rfl).trans <| bd_cg fun p2 hp2 =>
  (l_astore (show gPG 167 56 = some (.astore 5) by decide +kernel) (ls := [.ref a, .int i1, .int i2, .int i3, .int i4, u5]) (jr_nA hp2) (show (5 : Nat) < 6 by decide) (show _ = ([.ref a, .int i1, .int i2, .int i3, .int i4, p2.1] : List Value) from rfl)).trans <|
  (l_aload_n (show gPG 167 58 = some (.aload_n 0) by decide +kernel) rfl jr_ref).trans <|
  (l_gR (show gPG 167 59 = some (.getfield 63) by decide +kernel) (kd := 13) (sl := 25) (tc := 1) (fin := 1) (z := 0) (by decide +kernel) (by decide +kernel) (by decide +kernel)).trans <| bd_cg fun w3 hw3 =>
  (l_iconst (show gPG 167 62 = some (.iconst 0) by decide +kernel) (c := 0) (by decide +kernel)).trans <|
  (l_aload (show gPG 167 63 = some (.aload 5) by decide +kernel) rfl (jr_nA hp2)).trans <|
  (l_iconst (show gPG 167 65 = some (.iconst 0) by decide +kernel) (c := 0) (by decide +kernel)).trans <|
  (l_aload_n (show gPG 167 66 = some (.aload_n 0) by decide +kernel) rfl jr_ref).trans <|
  (l_gI (show gPG 167 67 = some (.getfield 235) by decide +kernel) (kd := 13) (sl := 23) (tc := 0) (fin := 0) (z := 0) (by decide +kernel) (by decide +kernel) (by decide +kernel)).trans <| bd_cg fun x4 hx4 =>
  (l_acp (show gPG 167 70 = some (.invokestatic 143) by decide +kernel) (q3 := 99) (q4 := 0) (z := 19) (by decide +kernel) (by decide +kernel) (jr_gR hw3) (jr_nA hp2) cs0 (by decide +kernel)).trans <| bd_cg fun m5 hm5 =>
  (l_aload_n (show gPG 167 73 = some (.aload_n 0) by decide +kernel) rfl jr_ref).trans <|
  (l_iload_n (show gPG 167 74 = some (.iload_n 1) by decide +kernel) rfl).trans <|
  (l_iconst (show gPG 167 75 = some (.iconst 3) by decide +kernel) (c := 3) (by decide +kernel)).trans <|
  (l_iload_n (show gPG 167 76 = some (.iload_n 2) by decide +kernel) rfl).trans <|
  (l_imul (show gPG 167 77 = some (.imul) by decide +kernel) ).trans <|
  (l_iload_n (show gPG 167 78 = some (.iload_n 3) by decide +kernel) rfl).trans <|
  (l_iadd (show gPG 167 79 = some (.iadd) by decide +kernel) ).trans <|
  (l_iload (show gPG 167 80 = some (.iload 4) by decide +kernel) rfl).trans <|
  (l_aload_n (show gPG 167 82 = some (.aload_n 0) by decide +kernel) rfl jr_ref).trans <|
  (l_gI (show gPG 167 83 = some (.getfield 279) by decide +kernel) (kd := 13) (sl := 26) (tc := 0) (fin := 0) (z := 0) (by decide +kernel) (by decide +kernel) (by decide +kernel)).trans <| bd_cg fun x6 hx6 =>
  (l_aload (show gPG 167 86 = some (.aload 5) by decide +kernel) rfl (jr_nA hp2)).trans <|
  l_callV (u := 1) (v := .ref a) (as := [.int i1, .int ((3 * i2) + i3), .int i4, .int x6, p2.1]) (show gPG 167 88 = some (jinvI 1 294) by decide +kernel) (by decide) (cc := 192) (na := 6) (kd := 13) (q4 := 0) (z := 10) (rest := []) (by decide +kernel) (by decide +kernel)  rfl (show (6 : Nat) ≤ 6 by decide) rfl cs0 (by decide +kernel) (cav (jr_nA hp2) (cai (cai (cai (cai (cav jr_ref ca0))))))
theorem b167_91 (d : Nat) (μ : jM) (u0 : Value) (u1 : Value) (u2 : Value) (u3 : Value) (i4 : Int32) (u5 : Value) : jR d 167 91 [u0, u1, u2, u3, .int i4, u5] [] μ = some (some (.int i4), μ) :=
  (l_iload (show gPG 167 91 = some (.iload 4) by decide +kernel) rfl).trans <|
  l_iret1 (show gPG 167 93 = some (.ireturn) by decide +kernel) (by decide +kernel)
-- Ref.isSource
theorem b168_0 (d : Nat) (μ : jM) (i0 : Int32) : jR (d + 1) 168 0 [.int i0] [] μ = (jC d 165 [.int i0, .int 0, .int 2] μ).bind fun p1 => jR (d + 1) 168 6 [.int i0] (p1.1.toList ++ []) p1.2 :=
  (l_iload_n (show gPG 168 0 = some (.iload_n 0) by decide +kernel) rfl).trans <|
  (l_iconst (show gPG 168 1 = some (.iconst 0) by decide +kernel) (c := 0) (by decide +kernel)).trans <|
  (l_iconst (show gPG 168 2 = some (.iconst 2) by decide +kernel) (c := 2) (by decide +kernel)).trans <|
  l_callS (u := 2) (as := [.int i0, .int 0, .int 2]) (show gPG 168 3 = some (jinvI 2 125) by decide +kernel) (by decide) (cc := 165) (na := 3) (q4 := 0) (z := 12) (rest := []) (by decide +kernel) (by decide +kernel)  rfl (show (3 : Nat) ≤ 3 by decide) rfl cs0 (by decide +kernel) (cai (cai (cai ca0))) (fun e => absurd e (by decide))
theorem b168_6 (d : Nat) (μ : jM) (u0 : Value) (s0 : Int32) : jR d 168 6 [u0] [.int s0] μ = (if jrf 4 s0 = true then some (some (.int s0), μ) else none) :=
  l_iret (show gPG 168 6 = some (.ireturn) by decide +kernel) (rc := 4) (by decide +kernel)
-- Ref.isCell
theorem b169_0 (d : Nat) (μ : jM) (a : Nat) (i1 : Int32) (i2 : Int32) (i3 : Int32) : jR (d + 1) 169 0 [.ref a, .int i1, .int i2, .int i3] [] μ = (jC d 170 [.int i1] μ).bind fun p1 => jR (d + 1) 169 4 [.ref a, .int i1, .int i2, .int i3] (p1.1.toList ++ []) p1.2 :=
  (l_iload_n (show gPG 169 0 = some (.iload_n 1) by decide +kernel) rfl).trans <|
  l_callS (u := 2) (as := [.int i1]) (show gPG 169 1 = some (jinvI 2 129) by decide +kernel) (by decide) (cc := 170) (na := 1) (q4 := 0) (z := 12) (rest := []) (by decide +kernel) (by decide +kernel)  rfl (show (1 : Nat) ≤ 1 by decide) rfl cs0 (by decide +kernel) (cai ca0) (fun e => absurd e (by decide))
theorem b169_4 (d : Nat) (μ : jM) (a : Nat) (i1 : Int32) (i2 : Int32) (i3 : Int32) (s0 : Int32) : jR (d + 1) 169 4 [.ref a, .int i1, .int i2, .int i3] [.int s0] μ = (if s0 = 0 then jR (d + 1) 169 34 [.ref a, .int i1, .int i2, .int i3] [] μ else (jgR μ 13 0 (.ref a)).bind fun w1 => (jaI μ w1 i1).bind fun x2 => (jC d 165 [.int i2, .int 0, .int (x2 - 1)] μ).bind fun p3 => jR (d + 1) 169 20 [.ref a, .int i1, .int i2, .int i3] (p3.1.toList ++ []) p3.2) :=
  (l_cmp0 (show gPG 169 4 = some (.ifCond .eq 30) by decide +kernel) (t := 34) (by decide +kernel)).trans <| jm_eq.trans <| ite_cg (
  rfl) (
  (l_iload_n (show gPG 169 7 = some (.iload_n 2) by decide +kernel) rfl).trans <|
  (l_iconst (show gPG 169 8 = some (.iconst 0) by decide +kernel) (c := 0) (by decide +kernel)).trans <|
  (l_aload_n (show gPG 169 9 = some (.aload_n 0) by decide +kernel) rfl jr_ref).trans <|
  (l_gR (show gPG 169 10 = some (.getfield 11) by decide +kernel) (kd := 13) (sl := 0) (tc := 1) (fin := 1) (z := 0) (by decide +kernel) (by decide +kernel) (by decide +kernel)).trans <| bd_cg fun w1 hw1 =>
  (l_iload_n (show gPG 169 13 = some (.iload_n 1) by decide +kernel) rfl).trans <|
  (l_iald (show gPG 169 14 = some (.iaload) by decide +kernel) ).trans <| bd_cg fun x2 hx2 =>
  (l_iconst (show gPG 169 15 = some (.iconst 1) by decide +kernel) (c := 1) (by decide +kernel)).trans <|
  (l_isub (show gPG 169 16 = some (.isub) by decide +kernel) ).trans <|
  l_callS (u := 2) (as := [.int i2, .int 0, .int (x2 - 1)]) (show gPG 169 17 = some (jinvI 2 125) by decide +kernel) (by decide) (cc := 165) (na := 3) (q4 := 0) (z := 12) (rest := []) (by decide +kernel) (by decide +kernel)  rfl (show (3 : Nat) ≤ 3 by decide) rfl cs0 (by decide +kernel) (cai (cai (cai ca0))) (fun e => absurd e (by decide)))
theorem b169_20 (d : Nat) (μ : jM) (u0 : Value) (u1 : Value) (u2 : Value) (i3 : Int32) (s0 : Int32) : jR (d + 1) 169 20 [u0, u1, u2, .int i3] [.int s0] μ = (if s0 = 0 then jR (d + 1) 169 34 [u0, u1, u2, .int i3] [] μ else (jC d 171 [.int i3] μ).bind fun p1 => jR (d + 1) 169 27 [u0, u1, u2, .int i3] (p1.1.toList ++ []) p1.2) :=
  (l_cmp0 (show gPG 169 20 = some (.ifCond .eq 14) by decide +kernel) (t := 34) (by decide +kernel)).trans <| jm_eq.trans <| ite_cg (
  rfl) (
  (l_iload_n (show gPG 169 23 = some (.iload_n 3) by decide +kernel) rfl).trans <|
  l_callS (u := 2) (as := [.int i3]) (show gPG 169 24 = some (jinvI 2 133) by decide +kernel) (by decide) (cc := 171) (na := 1) (q4 := 0) (z := 12) (rest := []) (by decide +kernel) (by decide +kernel)  rfl (show (1 : Nat) ≤ 1 by decide) rfl cs0 (by decide +kernel) (cai ca0) (fun e => absurd e (by decide)))
theorem b169_27 (d : Nat) (μ : jM) (u0 : Value) (u1 : Value) (u2 : Value) (u3 : Value) (s0 : Int32) : jR d 169 27 [u0, u1, u2, u3] [.int s0] μ = (if s0 = 0 then jR d 169 34 [u0, u1, u2, u3] [] μ else jR d 169 35 [u0, u1, u2, u3] [.int 1] μ) :=
  (l_cmp0 (show gPG 169 27 = some (.ifCond .eq 7) by decide +kernel) (t := 34) (by decide +kernel)).trans <| jm_eq.trans <| ite_cg (
  rfl) (
  (l_iconst (show gPG 169 30 = some (.iconst 1) by decide +kernel) (c := 1) (by decide +kernel)).trans <|
  l_goto (show gPG 169 31 = some (.goto 4) by decide +kernel) (t := 35) (by decide +kernel))
theorem b169_34 (d : Nat) (μ : jM) (u0 : Value) (u1 : Value) (u2 : Value) (u3 : Value) : jR d 169 34 [u0, u1, u2, u3] [] μ = jR d 169 35 [u0, u1, u2, u3] [.int 0] μ :=
  l_iconst (show gPG 169 34 = some (.iconst 0) by decide +kernel) (c := 0) (by decide +kernel)
theorem b169_35 (d : Nat) (μ : jM) (u0 : Value) (u1 : Value) (u2 : Value) (u3 : Value) (s0 : Int32) : jR d 169 35 [u0, u1, u2, u3] [.int s0] μ = (if jrf 4 s0 = true then some (some (.int s0), μ) else none) :=
  l_iret (show gPG 169 35 = some (.ireturn) by decide +kernel) (rc := 4) (by decide +kernel)
-- Ref.isGrid
theorem b170_0 (d : Nat) (μ : jM) (i0 : Int32) : jR (d + 1) 170 0 [.int i0] [] μ = (jC d 165 [.int i0, .int 0, .int 3] μ).bind fun p1 => jR (d + 1) 170 6 [.int i0] (p1.1.toList ++ []) p1.2 :=
  (l_iload_n (show gPG 170 0 = some (.iload_n 0) by decide +kernel) rfl).trans <|
  (l_iconst (show gPG 170 1 = some (.iconst 0) by decide +kernel) (c := 0) (by decide +kernel)).trans <|
  (l_iconst (show gPG 170 2 = some (.iconst 3) by decide +kernel) (c := 3) (by decide +kernel)).trans <|
  l_callS (u := 2) (as := [.int i0, .int 0, .int 3]) (show gPG 170 3 = some (jinvI 2 125) by decide +kernel) (by decide) (cc := 165) (na := 3) (q4 := 0) (z := 12) (rest := []) (by decide +kernel) (by decide +kernel)  rfl (show (3 : Nat) ≤ 3 by decide) rfl cs0 (by decide +kernel) (cai (cai (cai ca0))) (fun e => absurd e (by decide))
theorem b170_6 (d : Nat) (μ : jM) (u0 : Value) (s0 : Int32) : jR d 170 6 [u0] [.int s0] μ = (if jrf 4 s0 = true then some (some (.int s0), μ) else none) :=
  l_iret (show gPG 170 6 = some (.ireturn) by decide +kernel) (rc := 4) (by decide +kernel)
-- Ref.isColumn
theorem b171_0 (d : Nat) (μ : jM) (i0 : Int32) : jR (d + 1) 171 0 [.int i0] [] μ = (jC d 165 [.int i0, .int 0, .int 2] μ).bind fun p1 => jR (d + 1) 171 6 [.int i0] (p1.1.toList ++ []) p1.2 :=
  (l_iload_n (show gPG 171 0 = some (.iload_n 0) by decide +kernel) rfl).trans <|
  (l_iconst (show gPG 171 1 = some (.iconst 0) by decide +kernel) (c := 0) (by decide +kernel)).trans <|
  (l_iconst (show gPG 171 2 = some (.iconst 2) by decide +kernel) (c := 2) (by decide +kernel)).trans <|
  l_callS (u := 2) (as := [.int i0, .int 0, .int 2]) (show gPG 171 3 = some (jinvI 2 125) by decide +kernel) (by decide) (cc := 165) (na := 3) (q4 := 0) (z := 12) (rest := []) (by decide +kernel) (by decide +kernel)  rfl (show (3 : Nat) ≤ 3 by decide) rfl cs0 (by decide +kernel) (cai (cai (cai ca0))) (fun e => absurd e (by decide))
theorem b171_6 (d : Nat) (μ : jM) (u0 : Value) (s0 : Int32) : jR d 171 6 [u0] [.int s0] μ = (if jrf 4 s0 = true then some (some (.int s0), μ) else none) :=
  l_iret (show gPG 171 6 = some (.ireturn) by decide +kernel) (rc := 4) (by decide +kernel)
-- Ref.readContent
theorem b172_0 (d : Nat) (μ : jM) (a : Nat) : jR (d + 1) 172 0 [.ref a, .retAddr 0, .retAddr 0] [] μ = (jpI μ 13 17 0 (.ref a) 0).bind fun m1 => (jpI m1 13 21 0 (.ref a) 0).bind fun m2 => (jpI m2 13 22 2 (.ref a) 0).bind fun m3 => (jpI m3 13 23 0 (.ref a) 0).bind fun m4 => (if jrecv m4 13 (.ref a) = true then (jC d 173 [.ref a] m4).bind fun p5 => jR (d + 1) 172 24 [.ref a, .retAddr 0, .retAddr 0] (p5.1.toList ++ []) p5.2 else none) :=
  (l_aload_n (show gPG 172 0 = some (.aload_n 0) by decide +kernel) rfl jr_ref).trans <|
  (l_iconst (show gPG 172 1 = some (.iconst 0) by decide +kernel) (c := 0) (by decide +kernel)).trans <|
  (l_pI (show gPG 172 2 = some (.putfield 185) by decide +kernel) (kd := 13) (sl := 17) (tc := 0) (fin := 0) (z := 0) (by decide +kernel) (by decide +kernel) (by decide +kernel)).trans <| bd_cg fun m1 hm1 =>
  (l_aload_n (show gPG 172 5 = some (.aload_n 0) by decide +kernel) rfl jr_ref).trans <|
  (l_iconst (show gPG 172 6 = some (.iconst 0) by decide +kernel) (c := 0) (by decide +kernel)).trans <|
  (l_pI (show gPG 172 7 = some (.putfield 257) by decide +kernel) (kd := 13) (sl := 21) (tc := 0) (fin := 0) (z := 0) (by decide +kernel) (by decide +kernel) (by decide +kernel)).trans <| bd_cg fun m2 hm2 =>
  (l_aload_n (show gPG 172 10 = some (.aload_n 0) by decide +kernel) rfl jr_ref).trans <|
  (l_iconst (show gPG 172 11 = some (.iconst 0) by decide +kernel) (c := 0) (by decide +kernel)).trans <|
  (l_pI (show gPG 172 12 = some (.putfield 221) by decide +kernel) (kd := 13) (sl := 22) (tc := 2) (fin := 0) (z := 0) (by decide +kernel) (by decide +kernel) (by decide +kernel)).trans <| bd_cg fun m3 hm3 =>
  (l_aload_n (show gPG 172 15 = some (.aload_n 0) by decide +kernel) rfl jr_ref).trans <|
  (l_iconst (show gPG 172 16 = some (.iconst 0) by decide +kernel) (c := 0) (by decide +kernel)).trans <|
  (l_pI (show gPG 172 17 = some (.putfield 235) by decide +kernel) (kd := 13) (sl := 23) (tc := 0) (fin := 0) (z := 0) (by decide +kernel) (by decide +kernel) (by decide +kernel)).trans <| bd_cg fun m4 hm4 =>
  (l_aload_n (show gPG 172 20 = some (.aload_n 0) by decide +kernel) rfl jr_ref).trans <|
  l_callV (u := 1) (v := .ref a) (as := []) (show gPG 172 21 = some (jinvI 1 247) by decide +kernel) (by decide) (cc := 173) (na := 1) (kd := 13) (q4 := 0) (z := 10) (rest := []) (by decide +kernel) (by decide +kernel)  rfl (show (1 : Nat) ≤ 1 by decide) rfl cs0 (by decide +kernel) (cav jr_ref ca0)
theorem b172_24 (d : Nat) (μ : jM) (a : Nat) (u1 : Value) (u2 : Value) : jR (d + 1) 172 24 [.ref a, u1, u2] [] μ = (if jrecv μ 13 (.ref a) = true then (jC d 179 [.ref a, .int 61] μ).bind fun p1 => jR (d + 1) 172 32 [.ref a, .int 0, u2] (p1.1.toList ++ []) p1.2 else none) :=
  (l_iconst (show gPG 172 24 = some (.iconst 0) by decide +kernel) (c := 0) (by decide +kernel)).trans <|
  (l_istore_n (show gPG 172 25 = some (.istore_n 1) by decide +kernel) (ls := [.ref a, u1, u2]) (show (1 : Nat) < 3 by decide) (show _ = ([.ref a, .int 0, u2] : List Value) from rfl)).trans <|
  (l_aload_n (show gPG 172 26 = some (.aload_n 0) by decide +kernel) rfl jr_ref).trans <|
  (l_bipush (show gPG 172 27 = some (.bipush 61) by decide +kernel) (c := 61) (by decide +kernel)).trans <|
  l_callV (u := 1) (v := .ref a) (as := [.int 61]) (show gPG 172 29 = some (jinvI 1 238) by decide +kernel) (by decide) (cc := 179) (na := 2) (kd := 13) (q4 := 0) (z := 10) (rest := []) (by decide +kernel) (by decide +kernel)  rfl (show (2 : Nat) ≤ 2 by decide) rfl cs0 (by decide +kernel) (cai (cav jr_ref ca0))
theorem b172_32 (d : Nat) (μ : jM) (a : Nat) (i1 : Int32) (u2 : Value) (s0 : Int32) : jR (d + 1) 172 32 [.ref a, .int i1, u2] [.int s0] μ = (if s0 = 0 then (jgI μ 13 22 (.ref a)).bind fun x1 => (if x1 = 0 then (jgI μ 13 19 (.ref a)).bind fun x2 => (if x2 = 0 then jR (d + 1) 172 127 [.ref a, .int i1, u2] [] μ else (if jrecv μ 13 (.ref a) = true then (jC d 179 [.ref a, .int 45] μ).bind fun p3 => jR (d + 1) 172 68 [.ref a, .int i1, u2] (p3.1.toList ++ []) p3.2 else none)) else jR (d + 1) 172 127 [.ref a, .int i1, u2] [] μ) else (if jrecv μ 13 (.ref a) = true then (jC d 173 [.ref a] μ).bind fun p4 => jR (d + 1) 172 39 [.ref a, .int i1, u2] (p4.1.toList ++ []) p4.2 else none)) :=
  (l_cmp0 (show gPG 172 32 = some (.ifCond .eq 16) by decide +kernel) (t := 48) (by decide +kernel)).trans <| jm_eq.trans <| ite_cg (
  (l_aload_n (show gPG 172 48 = some (.aload_n 0) by decide +kernel) rfl jr_ref).trans <|
  (l_gI (show gPG 172 49 = some (.getfield 221) by decide +kernel) (kd := 13) (sl := 22) (tc := 2) (fin := 0) (z := 0) (by decide +kernel) (by decide +kernel) (by decide +kernel)).trans <| bd_cg fun x1 hx1 =>
  (l_cmp0 (show gPG 172 52 = some (.ifCond .ne 75) by decide +kernel) (t := 127) (by decide +kernel)).trans <| jm_ne.trans <| ite_cg (
  (l_aload_n (show gPG 172 55 = some (.aload_n 0) by decide +kernel) rfl jr_ref).trans <|
  (l_gI (show gPG 172 56 = some (.getfield 207) by decide +kernel) (kd := 13) (sl := 19) (tc := 0) (fin := 0) (z := 0) (by decide +kernel) (by decide +kernel) (by decide +kernel)).trans <| bd_cg fun x2 hx2 =>
  (l_cmp0 (show gPG 172 59 = some (.ifCond .eq 68) by decide +kernel) (t := 127) (by decide +kernel)).trans <| jm_eq.trans <| ite_cg (
  rfl) (
  (l_aload_n (show gPG 172 62 = some (.aload_n 0) by decide +kernel) rfl jr_ref).trans <|
  (l_bipush (show gPG 172 63 = some (.bipush 45) by decide +kernel) (c := 45) (by decide +kernel)).trans <|
  l_callV (u := 1) (v := .ref a) (as := [.int 45]) (show gPG 172 65 = some (jinvI 1 238) by decide +kernel) (by decide) (cc := 179) (na := 2) (kd := 13) (q4 := 0) (z := 10) (rest := []) (by decide +kernel) (by decide +kernel)  rfl (show (2 : Nat) ≤ 2 by decide) rfl cs0 (by decide +kernel) (cai (cav jr_ref ca0)))) (
  rfl)) (
  (l_aload_n (show gPG 172 35 = some (.aload_n 0) by decide +kernel) rfl jr_ref).trans <|
  l_callV (u := 1) (v := .ref a) (as := []) (show gPG 172 36 = some (jinvI 1 247) by decide +kernel) (by decide) (cc := 173) (na := 1) (kd := 13) (q4 := 0) (z := 10) (rest := []) (by decide +kernel) (by decide +kernel)  rfl (show (1 : Nat) ≤ 1 by decide) rfl cs0 (by decide +kernel) (cav jr_ref ca0))
theorem b172_39 (d : Nat) (μ : jM) (a : Nat) (u1 : Value) (u2 : Value) : jR (d + 1) 172 39 [.ref a, u1, u2] [] μ = (if jrecv μ 13 (.ref a) = true then (jC d 180 [.ref a] μ).bind fun p1 => jR (d + 1) 172 43 [.ref a, u1, u2] (p1.1.toList ++ []) p1.2 else none) :=
  (l_aload_n (show gPG 172 39 = some (.aload_n 0) by decide +kernel) rfl jr_ref).trans <|
  l_callV (u := 1) (v := .ref a) (as := []) (show gPG 172 40 = some (jinvI 1 270) by decide +kernel) (by decide) (cc := 180) (na := 1) (kd := 13) (q4 := 0) (z := 10) (rest := []) (by decide +kernel) (by decide +kernel)  rfl (show (1 : Nat) ≤ 1 by decide) rfl cs0 (by decide +kernel) (cav jr_ref ca0)
theorem b172_43 (d : Nat) (μ : jM) (a : Nat) (u1 : Value) (u2 : Value) : jR d 172 43 [.ref a, u1, u2] [] μ = jR d 172 127 [.ref a, .int 2, u2] [] μ :=
  (l_iconst (show gPG 172 43 = some (.iconst 2) by decide +kernel) (c := 2) (by decide +kernel)).trans <|
  (l_istore_n (show gPG 172 44 = some (.istore_n 1) by decide +kernel) (ls := [.ref a, u1, u2]) (show (1 : Nat) < 3 by decide) (show _ = ([.ref a, .int 2, u2] : List Value) from rfl)).trans <|
  l_goto (show gPG 172 45 = some (.goto 82) by decide +kernel) (t := 127) (by decide +kernel)
theorem b172_68 (d : Nat) (μ : jM) (a : Nat) (u1 : Value) (u2 : Value) (s0 : Int32) : jR (d + 1) 172 68 [.ref a, u1, u2] [.int s0] μ = (if s0 = 0 then jR (d + 1) 172 77 [.ref a, u1, .int s0] [] μ else (if jrecv μ 13 (.ref a) = true then (jC d 173 [.ref a] μ).bind fun p1 => jR (d + 1) 172 77 [.ref a, u1, .int s0] (p1.1.toList ++ []) p1.2 else none)) :=
  (l_istore_n (show gPG 172 68 = some (.istore_n 2) by decide +kernel) (ls := [.ref a, u1, u2]) (show (2 : Nat) < 3 by decide) (show _ = ([.ref a, u1, .int s0] : List Value) from rfl)).trans <|
  (l_iload_n (show gPG 172 69 = some (.iload_n 2) by decide +kernel) rfl).trans <|
  (l_cmp0 (show gPG 172 70 = some (.ifCond .eq 7) by decide +kernel) (t := 77) (by decide +kernel)).trans <| jm_eq.trans <| ite_cg (
  rfl) (
  (l_aload_n (show gPG 172 73 = some (.aload_n 0) by decide +kernel) rfl jr_ref).trans <|
  l_callV (u := 1) (v := .ref a) (as := []) (show gPG 172 74 = some (jinvI 1 247) by decide +kernel) (by decide) (cc := 173) (na := 1) (kd := 13) (q4 := 0) (z := 10) (rest := []) (by decide +kernel) (by decide +kernel)  rfl (show (1 : Nat) ≤ 1 by decide) rfl cs0 (by decide +kernel) (cav jr_ref ca0))
theorem b172_77 (d : Nat) (μ : jM) (a : Nat) (u1 : Value) (i2 : Int32) : jR d 172 77 [.ref a, u1, .int i2] [] μ = (jgI μ 13 22 (.ref a)).bind fun x1 => (if x1 = 0 then (jgI μ 13 19 (.ref a)).bind fun x2 => (if x2 = 1 then jR d 172 98 [.ref a, u1, .int i2] [.int 1, .ref a] μ else jR d 172 97 [.ref a, u1, .int i2] [.ref a] μ) else jR d 172 97 [.ref a, u1, .int i2] [.ref a] μ) :=
  (l_aload_n (show gPG 172 77 = some (.aload_n 0) by decide +kernel) rfl jr_ref).trans <|
  (l_aload_n (show gPG 172 78 = some (.aload_n 0) by decide +kernel) rfl jr_ref).trans <|
  (l_gI (show gPG 172 79 = some (.getfield 221) by decide +kernel) (kd := 13) (sl := 22) (tc := 2) (fin := 0) (z := 0) (by decide +kernel) (by decide +kernel) (by decide +kernel)).trans <| bd_cg fun x1 hx1 =>
  (l_cmp0 (show gPG 172 82 = some (.ifCond .ne 15) by decide +kernel) (t := 97) (by decide +kernel)).trans <| jm_ne.trans <| ite_cg (
  (l_aload_n (show gPG 172 85 = some (.aload_n 0) by decide +kernel) rfl jr_ref).trans <|
  (l_gI (show gPG 172 86 = some (.getfield 207) by decide +kernel) (kd := 13) (sl := 19) (tc := 0) (fin := 0) (z := 0) (by decide +kernel) (by decide +kernel) (by decide +kernel)).trans <| bd_cg fun x2 hx2 =>
  (l_iconst (show gPG 172 89 = some (.iconst 1) by decide +kernel) (c := 1) (by decide +kernel)).trans <|
  (l_cmp (show gPG 172 90 = some (.if_icmp .ne 7) by decide +kernel) (t := 97) (by decide +kernel)).trans <| jm_ne.trans <| ite_cg (
  (l_iconst (show gPG 172 93 = some (.iconst 1) by decide +kernel) (c := 1) (by decide +kernel)).trans <|
  l_goto (show gPG 172 94 = some (.goto 4) by decide +kernel) (t := 98) (by decide +kernel)) (
  rfl)) (
  rfl)
theorem b172_97 (d : Nat) (μ : jM) (a : Nat) (u1 : Value) (i2 : Int32) (s0 : Value) (hs0 : jisref s0 = true) : jR d 172 97 [.ref a, u1, .int i2] [s0] μ = jR d 172 98 [.ref a, u1, .int i2] [.int 0, s0] μ :=
  l_iconst (show gPG 172 97 = some (.iconst 0) by decide +kernel) (c := 0) (by decide +kernel)
theorem b172_98 (d : Nat) (μ : jM) (a : Nat) (u1 : Value) (i2 : Int32) (s0 : Value) (s1 : Int32) (hs0 : jisref s0 = true) : jR (d + 1) 172 98 [.ref a, u1, .int i2] [.int s1, s0] μ = (if jrecv μ 13 s0 = true then (jC d 185 [s0, .int s1] μ).bind fun p1 => jR (d + 1) 172 101 [.ref a, u1, .int i2] (p1.1.toList ++ []) p1.2 else none) :=
  l_callV (u := 1) (v := s0) (as := [.int s1]) (show gPG 172 98 = some (jinvI 1 241) by decide +kernel) (by decide) (cc := 185) (na := 2) (kd := 13) (q4 := 0) (z := 10) (rest := []) (by decide +kernel) (by decide +kernel)  rfl (show (2 : Nat) ≤ 2 by decide) rfl cs0 (by decide +kernel) (cai (cav hs0 ca0))
theorem b172_101 (d : Nat) (μ : jM) (a : Nat) (u1 : Value) (i2 : Int32) : jR d 172 101 [.ref a, u1, .int i2] [] μ = (if i2 = 0 then (jgI μ 13 20 (.ref a)).bind fun x1 => jR d 172 118 [.ref a, u1, .int i2] [.int x1, .ref a] μ else (jgI μ 13 20 (.ref a)).bind fun x2 => jR d 172 118 [.ref a, u1, .int i2] [.int (-x2), .ref a] μ) :=
  (l_aload_n (show gPG 172 101 = some (.aload_n 0) by decide +kernel) rfl jr_ref).trans <|
  (l_iload_n (show gPG 172 102 = some (.iload_n 2) by decide +kernel) rfl).trans <|
  (l_cmp0 (show gPG 172 103 = some (.ifCond .eq 11) by decide +kernel) (t := 114) (by decide +kernel)).trans <| jm_eq.trans <| ite_cg (
  (l_aload_n (show gPG 172 114 = some (.aload_n 0) by decide +kernel) rfl jr_ref).trans <|
  (l_gI (show gPG 172 115 = some (.getfield 218) by decide +kernel) (kd := 13) (sl := 20) (tc := 0) (fin := 0) (z := 0) (by decide +kernel) (by decide +kernel) (by decide +kernel)).trans <| bd_cg fun x1 hx1 =>
  rfl) (
  (l_aload_n (show gPG 172 106 = some (.aload_n 0) by decide +kernel) rfl jr_ref).trans <|
  (l_gI (show gPG 172 107 = some (.getfield 218) by decide +kernel) (kd := 13) (sl := 20) (tc := 0) (fin := 0) (z := 0) (by decide +kernel) (by decide +kernel) (by decide +kernel)).trans <| bd_cg fun x2 hx2 =>
  (l_ineg (show gPG 172 110 = some (.ineg) by decide +kernel) ).trans <|
  l_goto (show gPG 172 111 = some (.goto 7) by decide +kernel) (t := 118) (by decide +kernel))
theorem b172_118 (d : Nat) (μ : jM) (a : Nat) (u1 : Value) (u2 : Value) (s0 : Value) (s1 : Int32) (hs0 : jisref s0 = true) : jR (d + 1) 172 118 [.ref a, u1, u2] [.int s1, s0] μ = (jpI μ 13 26 0 s0 s1).bind fun m1 => (if jrecv m1 13 (.ref a) = true then (jC d 173 [.ref a] m1).bind fun p2 => jR (d + 1) 172 125 [.ref a, u1, u2] (p2.1.toList ++ []) p2.2 else none) :=
  (l_pI (show gPG 172 118 = some (.putfield 279) by decide +kernel) (kd := 13) (sl := 26) (tc := 0) (fin := 0) (z := 0) (by decide +kernel) (by decide +kernel) (by decide +kernel)).trans <| bd_cg fun m1 hm1 =>
  (l_aload_n (show gPG 172 121 = some (.aload_n 0) by decide +kernel) rfl jr_ref).trans <|
  l_callV (u := 1) (v := .ref a) (as := []) (show gPG 172 122 = some (jinvI 1 247) by decide +kernel) (by decide) (cc := 173) (na := 1) (kd := 13) (q4 := 0) (z := 10) (rest := []) (by decide +kernel) (by decide +kernel)  rfl (show (1 : Nat) ≤ 1 by decide) rfl cs0 (by decide +kernel) (cav jr_ref ca0)
theorem b172_125 (d : Nat) (μ : jM) (a : Nat) (u1 : Value) (u2 : Value) : jR d 172 125 [.ref a, u1, u2] [] μ = jR d 172 127 [.ref a, .int 1, u2] [] μ :=
  (l_iconst (show gPG 172 125 = some (.iconst 1) by decide +kernel) (c := 1) (by decide +kernel)).trans <|
  l_istore_n (show gPG 172 126 = some (.istore_n 1) by decide +kernel) (ls := [.ref a, u1, u2]) (show (1 : Nat) < 3 by decide) (show _ = ([.ref a, .int 1, u2] : List Value) from rfl)
theorem b172_127 (d : Nat) (μ : jM) (a : Nat) (i1 : Int32) (u2 : Value) : jR d 172 127 [.ref a, .int i1, u2] [] μ = (jgI μ 13 22 (.ref a)).bind fun x1 => (if x1 = 0 then (jgI μ 13 19 (.ref a)).bind fun x2 => (if x2 = 0 then jR d 172 147 [.ref a, .int i1, u2] [.int 1, .ref a] μ else jR d 172 146 [.ref a, .int i1, u2] [.ref a] μ) else jR d 172 146 [.ref a, .int i1, u2] [.ref a] μ) :=
  (l_aload_n (show gPG 172 127 = some (.aload_n 0) by decide +kernel) rfl jr_ref).trans <|
  (l_aload_n (show gPG 172 128 = some (.aload_n 0) by decide +kernel) rfl jr_ref).trans <|
  (l_gI (show gPG 172 129 = some (.getfield 221) by decide +kernel) (kd := 13) (sl := 22) (tc := 2) (fin := 0) (z := 0) (by decide +kernel) (by decide +kernel) (by decide +kernel)).trans <| bd_cg fun x1 hx1 =>
  (l_cmp0 (show gPG 172 132 = some (.ifCond .ne 14) by decide +kernel) (t := 146) (by decide +kernel)).trans <| jm_ne.trans <| ite_cg (
  (l_aload_n (show gPG 172 135 = some (.aload_n 0) by decide +kernel) rfl jr_ref).trans <|
  (l_gI (show gPG 172 136 = some (.getfield 207) by decide +kernel) (kd := 13) (sl := 19) (tc := 0) (fin := 0) (z := 0) (by decide +kernel) (by decide +kernel) (by decide +kernel)).trans <| bd_cg fun x2 hx2 =>
  (l_cmp0 (show gPG 172 139 = some (.ifCond .ne 7) by decide +kernel) (t := 146) (by decide +kernel)).trans <| jm_ne.trans <| ite_cg (
  (l_iconst (show gPG 172 142 = some (.iconst 1) by decide +kernel) (c := 1) (by decide +kernel)).trans <|
  l_goto (show gPG 172 143 = some (.goto 4) by decide +kernel) (t := 147) (by decide +kernel)) (
  rfl)) (
  rfl)
theorem b172_146 (d : Nat) (μ : jM) (a : Nat) (i1 : Int32) (u2 : Value) (s0 : Value) (hs0 : jisref s0 = true) : jR d 172 146 [.ref a, .int i1, u2] [s0] μ = jR d 172 147 [.ref a, .int i1, u2] [.int 0, s0] μ :=
  l_iconst (show gPG 172 146 = some (.iconst 0) by decide +kernel) (c := 0) (by decide +kernel)
theorem b172_147 (d : Nat) (μ : jM) (a : Nat) (i1 : Int32) (u2 : Value) (s0 : Value) (s1 : Int32) (hs0 : jisref s0 = true) : jR (d + 1) 172 147 [.ref a, .int i1, u2] [.int s1, s0] μ = (if jrecv μ 13 s0 = true then (jC d 185 [s0, .int s1] μ).bind fun p1 => jR (d + 1) 172 150 [.ref a, .int i1, u2] (p1.1.toList ++ []) p1.2 else none) :=
  l_callV (u := 1) (v := s0) (as := [.int s1]) (show gPG 172 147 = some (jinvI 1 241) by decide +kernel) (by decide) (cc := 185) (na := 2) (kd := 13) (q4 := 0) (z := 10) (rest := []) (by decide +kernel) (by decide +kernel)  rfl (show (2 : Nat) ≤ 2 by decide) rfl cs0 (by decide +kernel) (cai (cav hs0 ca0))
theorem b172_150 (d : Nat) (μ : jM) (a : Nat) (i1 : Int32) (u2 : Value) : jR d 172 150 [.ref a, .int i1, u2] [] μ = (jpI μ 13 16 0 (.ref a) 0).bind fun m1 => some (some (.int i1), m1) :=
  (l_aload_n (show gPG 172 150 = some (.aload_n 0) by decide +kernel) rfl jr_ref).trans <|
  (l_iconst (show gPG 172 151 = some (.iconst 0) by decide +kernel) (c := 0) (by decide +kernel)).trans <|
  (l_pI (show gPG 172 152 = some (.putfield 176) by decide +kernel) (kd := 13) (sl := 16) (tc := 0) (fin := 0) (z := 0) (by decide +kernel) (by decide +kernel) (by decide +kernel)).trans <| bd_cg fun m1 hm1 =>
  (l_iload_n (show gPG 172 155 = some (.iload_n 1) by decide +kernel) rfl).trans <|
  l_iret1 (show gPG 172 156 = some (.ireturn) by decide +kernel) (by decide +kernel)
-- Ref.next
theorem b173_0 (d : Nat) (μ : jM) (a : Nat) : jR d 173 0 [.ref a, .retAddr 0] [] μ = (jgI μ 13 22 (.ref a)).bind fun x1 => (if x1 = 0 then jR d 173 8 [.ref a, .retAddr 0] [] μ else some (none, μ)) :=
  (l_aload_n (show gPG 173 0 = some (.aload_n 0) by decide +kernel) rfl jr_ref).trans <|
  (l_gI (show gPG 173 1 = some (.getfield 221) by decide +kernel) (kd := 13) (sl := 22) (tc := 2) (fin := 0) (z := 0) (by decide +kernel) (by decide +kernel) (by decide +kernel)).trans <| bd_cg fun x1 hx1 =>
  (l_cmp0 (show gPG 173 4 = some (.ifCond .eq 4) by decide +kernel) (t := 8) (by decide +kernel)).trans <| jm_eq.trans <| ite_cg (
  rfl) (
  l_ret (show gPG 173 7 = some (.return_) by decide +kernel) (by decide +kernel))
theorem b173_8 (d : Nat) (μ : jM) (a : Nat) (u1 : Value) : jR (d + 1) 173 8 [.ref a, u1] [] μ = (jgI μ 13 17 (.ref a)).bind fun x1 => (if jrecv μ 13 (.ref a) = true then (jC d 174 [.ref a, .int x1] μ).bind fun p2 => jR (d + 1) 173 16 [.ref a, u1] (p2.1.toList ++ []) p2.2 else none) :=
  (l_aload_n (show gPG 173 8 = some (.aload_n 0) by decide +kernel) rfl jr_ref).trans <|
  (l_aload_n (show gPG 173 9 = some (.aload_n 0) by decide +kernel) rfl jr_ref).trans <|
  (l_gI (show gPG 173 10 = some (.getfield 185) by decide +kernel) (kd := 13) (sl := 17) (tc := 0) (fin := 0) (z := 0) (by decide +kernel) (by decide +kernel) (by decide +kernel)).trans <| bd_cg fun x1 hx1 =>
  l_callV (u := 1) (v := .ref a) (as := [.int x1]) (show gPG 173 13 = some (jinvI 1 195) by decide +kernel) (by decide) (cc := 174) (na := 2) (kd := 13) (q4 := 0) (z := 10) (rest := []) (by decide +kernel) (by decide +kernel)  rfl (show (2 : Nat) ≤ 2 by decide) rfl cs0 (by decide +kernel) (cai (cav jr_ref ca0))
theorem b173_16 (d : Nat) (μ : jM) (a : Nat) (u1 : Value) (s0 : Int32) : jR (d + 1) 173 16 [.ref a, u1] [.int s0] μ = (if s0 = 32 then jR (d + 1) 173 34 [.ref a, u1] [] μ else (jgI μ 13 17 (.ref a)).bind fun x1 => (if jrecv μ 13 (.ref a) = true then (jC d 174 [.ref a, .int x1] μ).bind fun p2 => jR (d + 1) 173 29 [.ref a, u1] (p2.1.toList ++ []) p2.2 else none)) :=
  (l_bipush (show gPG 173 16 = some (.bipush 32) by decide +kernel) (c := 32) (by decide +kernel)).trans <|
  (l_cmp (show gPG 173 18 = some (.if_icmp .eq 16) by decide +kernel) (t := 34) (by decide +kernel)).trans <| jm_eq.trans <| ite_cg (
  rfl) (
  (l_aload_n (show gPG 173 21 = some (.aload_n 0) by decide +kernel) rfl jr_ref).trans <|
  (l_aload_n (show gPG 173 22 = some (.aload_n 0) by decide +kernel) rfl jr_ref).trans <|
  (l_gI (show gPG 173 23 = some (.getfield 185) by decide +kernel) (kd := 13) (sl := 17) (tc := 0) (fin := 0) (z := 0) (by decide +kernel) (by decide +kernel) (by decide +kernel)).trans <| bd_cg fun x1 hx1 =>
  l_callV (u := 1) (v := .ref a) (as := [.int x1]) (show gPG 173 26 = some (jinvI 1 195) by decide +kernel) (by decide) (cc := 174) (na := 2) (kd := 13) (q4 := 0) (z := 10) (rest := []) (by decide +kernel) (by decide +kernel)  rfl (show (2 : Nat) ≤ 2 by decide) rfl cs0 (by decide +kernel) (cai (cav jr_ref ca0)))
theorem b173_29 (d : Nat) (μ : jM) (a : Nat) (u1 : Value) (s0 : Int32) : jR (d + 1) 173 29 [.ref a, u1] [.int s0] μ = (if s0 = 10 then jR (d + 1) 173 34 [.ref a, u1] [] μ else (jgI μ 13 17 (.ref a)).bind fun x1 => (jpI μ 13 18 0 (.ref a) x1).bind fun m2 => (jgI m2 13 17 (.ref a)).bind fun x3 => (if jrecv m2 13 (.ref a) = true then (jC d 174 [.ref a, .int x3] m2).bind fun p4 => jR (d + 1) 173 63 [.ref a, u1] (p4.1.toList ++ []) p4.2 else none)) :=
  (l_bipush (show gPG 173 29 = some (.bipush 10) by decide +kernel) (c := 10) (by decide +kernel)).trans <|
  (l_cmp (show gPG 173 31 = some (.if_icmp .ne 16) by decide +kernel) (t := 47) (by decide +kernel)).trans <| jm_ne.trans <| ite_cg (
  rfl) (
  (l_aload_n (show gPG 173 47 = some (.aload_n 0) by decide +kernel) rfl jr_ref).trans <|
  (l_aload_n (show gPG 173 48 = some (.aload_n 0) by decide +kernel) rfl jr_ref).trans <|
  (l_gI (show gPG 173 49 = some (.getfield 185) by decide +kernel) (kd := 13) (sl := 17) (tc := 0) (fin := 0) (z := 0) (by decide +kernel) (by decide +kernel) (by decide +kernel)).trans <| bd_cg fun x1 hx1 =>
  (l_pI (show gPG 173 52 = some (.putfield 188) by decide +kernel) (kd := 13) (sl := 18) (tc := 0) (fin := 0) (z := 0) (by decide +kernel) (by decide +kernel) (by decide +kernel)).trans <| bd_cg fun m2 hm2 =>
  (l_aload_n (show gPG 173 55 = some (.aload_n 0) by decide +kernel) rfl jr_ref).trans <|
  (l_aload_n (show gPG 173 56 = some (.aload_n 0) by decide +kernel) rfl jr_ref).trans <|
  (l_gI (show gPG 173 57 = some (.getfield 185) by decide +kernel) (kd := 13) (sl := 17) (tc := 0) (fin := 0) (z := 0) (by decide +kernel) (by decide +kernel) (by decide +kernel)).trans <| bd_cg fun x3 hx3 =>
  l_callV (u := 1) (v := .ref a) (as := [.int x3]) (show gPG 173 60 = some (jinvI 1 195) by decide +kernel) (by decide) (cc := 174) (na := 2) (kd := 13) (q4 := 0) (z := 10) (rest := []) (by decide +kernel) (by decide +kernel)  rfl (show (2 : Nat) ≤ 2 by decide) rfl cs0 (by decide +kernel) (cai (cav jr_ref ca0)))
theorem b173_34 (d : Nat) (μ : jM) (a : Nat) (u1 : Value) : jR d 173 34 [.ref a, u1] [] μ = (jgI μ 13 17 (.ref a)).bind fun x1 => (jpI μ 13 17 0 (.ref a) (x1 + 1)).bind fun m2 => jR d 173 8 [.ref a, u1] [] m2 :=
  (l_aload_n (show gPG 173 34 = some (.aload_n 0) by decide +kernel) rfl jr_ref).trans <|
  (l_dup (show gPG 173 35 = some (.dup) by decide +kernel) (jr_cat1 jr_ref)).trans <|
  (l_gI (show gPG 173 36 = some (.getfield 185) by decide +kernel) (kd := 13) (sl := 17) (tc := 0) (fin := 0) (z := 0) (by decide +kernel) (by decide +kernel) (by decide +kernel)).trans <| bd_cg fun x1 hx1 =>
  (l_iconst (show gPG 173 39 = some (.iconst 1) by decide +kernel) (c := 1) (by decide +kernel)).trans <|
  (l_iadd (show gPG 173 40 = some (.iadd) by decide +kernel) ).trans <|
  (l_pI (show gPG 173 41 = some (.putfield 185) by decide +kernel) (kd := 13) (sl := 17) (tc := 0) (fin := 0) (z := 0) (by decide +kernel) (by decide +kernel) (by decide +kernel)).trans <| bd_cg fun m2 hm2 =>
  l_goto (show gPG 173 44 = some (.goto (-36)) by decide +kernel) (t := 8) (by decide +kernel)
theorem b173_63 (d : Nat) (μ : jM) (a : Nat) (u1 : Value) (s0 : Int32) : jR (d + 1) 173 63 [.ref a, u1] [.int s0] μ = (jpI μ 13 19 0 (.ref a) 0).bind fun m1 => (if s0 = (-1) then some (none, m1) else (jC d 165 [.int s0, .int 97, .int 122] m1).bind fun p2 => jR (d + 1) 173 83 [.ref a, .int s0] (p2.1.toList ++ []) p2.2) :=
  (l_istore_n (show gPG 173 63 = some (.istore_n 1) by decide +kernel) (ls := [.ref a, u1]) (show (1 : Nat) < 2 by decide) (show _ = ([.ref a, .int s0] : List Value) from rfl)).trans <|
  (l_aload_n (show gPG 173 64 = some (.aload_n 0) by decide +kernel) rfl jr_ref).trans <|
  (l_iconst (show gPG 173 65 = some (.iconst 0) by decide +kernel) (c := 0) (by decide +kernel)).trans <|
  (l_pI (show gPG 173 66 = some (.putfield 207) by decide +kernel) (kd := 13) (sl := 19) (tc := 0) (fin := 0) (z := 0) (by decide +kernel) (by decide +kernel) (by decide +kernel)).trans <| bd_cg fun m1 hm1 =>
  (l_iload_n (show gPG 173 69 = some (.iload_n 1) by decide +kernel) rfl).trans <|
  (l_iconst (show gPG 173 70 = some (.iconst (-1)) by decide +kernel) (c := (-1)) (by decide +kernel)).trans <|
  (l_cmp (show gPG 173 71 = some (.if_icmp .ne 4) by decide +kernel) (t := 75) (by decide +kernel)).trans <| jm_ne.trans <| ite_cg (
  l_ret (show gPG 173 74 = some (.return_) by decide +kernel) (by decide +kernel)) (
  (l_iload_n (show gPG 173 75 = some (.iload_n 1) by decide +kernel) rfl).trans <|
  (l_bipush (show gPG 173 76 = some (.bipush 97) by decide +kernel) (c := 97) (by decide +kernel)).trans <|
  (l_bipush (show gPG 173 78 = some (.bipush 122) by decide +kernel) (c := 122) (by decide +kernel)).trans <|
  l_callS (u := 2) (as := [.int s0, .int 97, .int 122]) (show gPG 173 80 = some (jinvI 2 125) by decide +kernel) (by decide) (cc := 165) (na := 3) (q4 := 0) (z := 12) (rest := []) (by decide +kernel) (by decide +kernel)  rfl (show (3 : Nat) ≤ 3 by decide) rfl cs0 (by decide +kernel) (cai (cai (cai ca0))) (fun e => absurd e (by decide)))
theorem b173_83 (d : Nat) (μ : jM) (a : Nat) (i1 : Int32) (s0 : Int32) : jR (d + 1) 173 83 [.ref a, .int i1] [.int s0] μ = (if s0 = 0 then (jC d 165 [.int i1, .int 48, .int 57] μ).bind fun p1 => jR (d + 1) 173 101 [.ref a, .int i1] (p1.1.toList ++ []) p1.2 else (if jrecv μ 13 (.ref a) = true then (jC d 175 [.ref a] μ).bind fun p2 => jR (d + 1) 173 90 [.ref a, .int i1] (p2.1.toList ++ []) p2.2 else none)) :=
  (l_cmp0 (show gPG 173 83 = some (.ifCond .eq 10) by decide +kernel) (t := 93) (by decide +kernel)).trans <| jm_eq.trans <| ite_cg (
  (l_iload_n (show gPG 173 93 = some (.iload_n 1) by decide +kernel) rfl).trans <|
  (l_bipush (show gPG 173 94 = some (.bipush 48) by decide +kernel) (c := 48) (by decide +kernel)).trans <|
  (l_bipush (show gPG 173 96 = some (.bipush 57) by decide +kernel) (c := 57) (by decide +kernel)).trans <|
  l_callS (u := 2) (as := [.int i1, .int 48, .int 57]) (show gPG 173 98 = some (jinvI 2 125) by decide +kernel) (by decide) (cc := 165) (na := 3) (q4 := 0) (z := 12) (rest := []) (by decide +kernel) (by decide +kernel)  rfl (show (3 : Nat) ≤ 3 by decide) rfl cs0 (by decide +kernel) (cai (cai (cai ca0))) (fun e => absurd e (by decide))) (
  (l_aload_n (show gPG 173 86 = some (.aload_n 0) by decide +kernel) rfl jr_ref).trans <|
  l_callV (u := 1) (v := .ref a) (as := []) (show gPG 173 87 = some (jinvI 1 224) by decide +kernel) (by decide) (cc := 175) (na := 1) (kd := 13) (q4 := 0) (z := 10) (rest := []) (by decide +kernel) (by decide +kernel)  rfl (show (1 : Nat) ≤ 1 by decide) rfl cs0 (by decide +kernel) (cav jr_ref ca0))
theorem b173_90 (d : Nat) (μ : jM) (u0 : Value) (u1 : Value) : jR d 173 90 [u0, u1] [] μ = jR d 173 155 [u0, u1] [] μ :=
  l_goto (show gPG 173 90 = some (.goto 65) by decide +kernel) (t := 155) (by decide +kernel)
theorem b173_101 (d : Nat) (μ : jM) (a : Nat) (i1 : Int32) (s0 : Int32) (hx : jX μ) : jR (d + 1) 173 101 [.ref a, .int i1] [.int s0] μ = (if s0 = 0 then (jpI μ 13 19 0 (.ref a) 2).bind fun m1 => (jpI m1 13 20 0 (.ref a) i1).bind fun m2 => (jgI m2 13 17 (.ref a)).bind fun x3 => (jpI m2 13 17 0 (.ref a) (x3 + 1)).bind fun m4 => (if 127 < i1 then jR (d + 1) 173 147 [.ref a, .int i1] [.ref a] m4 else (if jrecv m4 0 ((jext m4 20)) = true then (jC d 287 [(jext m4 20), .int i1] m4).bind fun p5 => jR (d + 1) 173 144 [.ref a, .int i1] (p5.1.toList ++ [.ref a]) p5.2 else none)) else (if jrecv μ 13 (.ref a) = true then (jC d 178 [.ref a] μ).bind fun p6 => jR (d + 1) 173 108 [.ref a, .int i1] (p6.1.toList ++ []) p6.2 else none)) :=
  (l_cmp0 (show gPG 173 101 = some (.ifCond .eq 10) by decide +kernel) (t := 111) (by decide +kernel)).trans <| jm_eq.trans <| ite_cg (
  (l_aload_n (show gPG 173 111 = some (.aload_n 0) by decide +kernel) rfl jr_ref).trans <|
  (l_iconst (show gPG 173 112 = some (.iconst 2) by decide +kernel) (c := 2) (by decide +kernel)).trans <|
  (l_pI (show gPG 173 113 = some (.putfield 207) by decide +kernel) (kd := 13) (sl := 19) (tc := 0) (fin := 0) (z := 0) (by decide +kernel) (by decide +kernel) (by decide +kernel)).trans <| bd_cg fun m1 hm1 =>
  (l_aload_n (show gPG 173 116 = some (.aload_n 0) by decide +kernel) rfl jr_ref).trans <|
  (l_iload_n (show gPG 173 117 = some (.iload_n 1) by decide +kernel) rfl).trans <|
  (l_pI (show gPG 173 118 = some (.putfield 218) by decide +kernel) (kd := 13) (sl := 20) (tc := 0) (fin := 0) (z := 0) (by decide +kernel) (by decide +kernel) (by decide +kernel)).trans <| bd_cg fun m2 hm2 =>
  (l_aload_n (show gPG 173 121 = some (.aload_n 0) by decide +kernel) rfl jr_ref).trans <|
  (l_dup (show gPG 173 122 = some (.dup) by decide +kernel) (jr_cat1 jr_ref)).trans <|
  (l_gI (show gPG 173 123 = some (.getfield 185) by decide +kernel) (kd := 13) (sl := 17) (tc := 0) (fin := 0) (z := 0) (by decide +kernel) (by decide +kernel) (by decide +kernel)).trans <| bd_cg fun x3 hx3 =>
  (l_iconst (show gPG 173 126 = some (.iconst 1) by decide +kernel) (c := 1) (by decide +kernel)).trans <|
  (l_iadd (show gPG 173 127 = some (.iadd) by decide +kernel) ).trans <|
  (l_pI (show gPG 173 128 = some (.putfield 185) by decide +kernel) (kd := 13) (sl := 17) (tc := 0) (fin := 0) (z := 0) (by decide +kernel) (by decide +kernel) (by decide +kernel)).trans <| bd_cg fun m4 hm4 =>
  (l_aload_n (show gPG 173 131 = some (.aload_n 0) by decide +kernel) rfl jr_ref).trans <|
  (l_iload_n (show gPG 173 132 = some (.iload_n 1) by decide +kernel) rfl).trans <|
  (l_bipush (show gPG 173 133 = some (.bipush 127) by decide +kernel) (c := 127) (by decide +kernel)).trans <|
  (l_cmp (show gPG 173 135 = some (.if_icmp .gt 12) by decide +kernel) (t := 147) (by decide +kernel)).trans <| jm_gt.trans <| ite_cg (
  rfl) (
  (l_ldcs (show gPG 173 138 = some (.ldc 230) by decide +kernel) (j := 20) (by decide +kernel) (by decide +kernel)).trans <|
  (l_iload_n (show gPG 173 140 = some (.iload_n 1) by decide +kernel) rfl).trans <|
  l_callV (u := 1) (v := (jext m4 20)) (as := [.int i1]) (show gPG 173 141 = some (jinvI 1 232) by decide +kernel) (by decide) (cc := 287) (na := 2) (kd := 0) (q4 := 0) (z := 10) (rest := [.ref a]) (by decide +kernel) (by decide +kernel)  rfl (show (2 : Nat) ≤ 3 by decide) rfl (csv jr_ref cs0) (by decide +kernel) (cai (cav ((jX_pI (jX_pI (jX_pI hx hm1) hm2) hm4).2 20 (by decide) (by decide)) ca0)))) (
  (l_aload_n (show gPG 173 104 = some (.aload_n 0) by decide +kernel) rfl jr_ref).trans <|
  l_callV (u := 1) (v := .ref a) (as := []) (show gPG 173 105 = some (jinvI 1 227) by decide +kernel) (by decide) (cc := 178) (na := 1) (kd := 13) (q4 := 0) (z := 10) (rest := []) (by decide +kernel) (by decide +kernel)  rfl (show (1 : Nat) ≤ 1 by decide) rfl cs0 (by decide +kernel) (cav jr_ref ca0))
theorem b173_108 (d : Nat) (μ : jM) (u0 : Value) (u1 : Value) : jR d 173 108 [u0, u1] [] μ = jR d 173 155 [u0, u1] [] μ :=
  l_goto (show gPG 173 108 = some (.goto 47) by decide +kernel) (t := 155) (by decide +kernel)
theorem b173_144 (d : Nat) (μ : jM) (u0 : Value) (u1 : Value) (s0 : Value) (s1 : Int32) (hs0 : jisref s0 = true) : jR d 173 144 [u0, u1] [.int s1, s0] μ = (if s1 < 0 then jR d 173 147 [u0, u1] [s0] μ else jR d 173 152 [u0, u1] [.int 0, s0] μ) :=
  (l_cmp0 (show gPG 173 144 = some (.ifCond .ge 7) by decide +kernel) (t := 151) (by decide +kernel)).trans <| jm_ge.trans <| ite_cg (
  rfl) (
  l_iconst (show gPG 173 151 = some (.iconst 0) by decide +kernel) (c := 0) (by decide +kernel))
theorem b173_147 (d : Nat) (μ : jM) (u0 : Value) (u1 : Value) (s0 : Value) (hs0 : jisref s0 = true) : jR d 173 147 [u0, u1] [s0] μ = jR d 173 152 [u0, u1] [.int 1, s0] μ :=
  (l_iconst (show gPG 173 147 = some (.iconst 1) by decide +kernel) (c := 1) (by decide +kernel)).trans <|
  l_goto (show gPG 173 148 = some (.goto 4) by decide +kernel) (t := 152) (by decide +kernel)
theorem b173_152 (d : Nat) (μ : jM) (u0 : Value) (u1 : Value) (s0 : Value) (s1 : Int32) (hs0 : jisref s0 = true) : jR d 173 152 [u0, u1] [.int s1, s0] μ = (jpI μ 13 22 2 s0 s1).bind fun m1 => jR d 173 155 [u0, u1] [] m1 :=
  (l_pI (show gPG 173 152 = some (.putfield 221) by decide +kernel) (kd := 13) (sl := 22) (tc := 2) (fin := 0) (z := 0) (by decide +kernel) (by decide +kernel) (by decide +kernel)).trans <| bd_cg fun m1 hm1 =>
  rfl
theorem b173_155 (d : Nat) (μ : jM) (u0 : Value) (u1 : Value) : jR d 173 155 [u0, u1] [] μ = some (none, μ) :=
  l_ret (show gPG 173 155 = some (.return_) by decide +kernel) (by decide +kernel)
-- Ref.byteAt
theorem b174_0 (d : Nat) (μ : jM) (a : Nat) (i1 : Int32) : jR d 174 0 [.ref a, .int i1] [] μ = (jgI μ 13 16 (.ref a)).bind fun x1 => (if i1 < x1 then (jgR μ 13 15 (.ref a)).bind fun w2 => (jaI μ w2 i1).bind fun x3 => jR d 174 18 [.ref a, .int i1] [.int x3] μ else jR d 174 18 [.ref a, .int i1] [.int (-1)] μ) :=
  (l_iload_n (show gPG 174 0 = some (.iload_n 1) by decide +kernel) rfl).trans <|
  (l_aload_n (show gPG 174 1 = some (.aload_n 0) by decide +kernel) rfl jr_ref).trans <|
  (l_gI (show gPG 174 2 = some (.getfield 176) by decide +kernel) (kd := 13) (sl := 16) (tc := 0) (fin := 0) (z := 0) (by decide +kernel) (by decide +kernel) (by decide +kernel)).trans <| bd_cg fun x1 hx1 =>
  (l_cmp (show gPG 174 5 = some (.if_icmp .ge 12) by decide +kernel) (t := 17) (by decide +kernel)).trans <| jm_ge.trans <| ite_cg (
  (l_aload_n (show gPG 174 8 = some (.aload_n 0) by decide +kernel) rfl jr_ref).trans <|
  (l_gR (show gPG 174 9 = some (.getfield 60) by decide +kernel) (kd := 13) (sl := 15) (tc := 1) (fin := 1) (z := 0) (by decide +kernel) (by decide +kernel) (by decide +kernel)).trans <| bd_cg fun w2 hw2 =>
  (l_iload_n (show gPG 174 12 = some (.iload_n 1) by decide +kernel) rfl).trans <|
  (l_iald (show gPG 174 13 = some (.iaload) by decide +kernel) ).trans <| bd_cg fun x3 hx3 =>
  l_goto (show gPG 174 14 = some (.goto 4) by decide +kernel) (t := 18) (by decide +kernel)) (
  l_iconst (show gPG 174 17 = some (.iconst (-1)) by decide +kernel) (c := (-1)) (by decide +kernel))
theorem b174_18 (d : Nat) (μ : jM) (u0 : Value) (u1 : Value) (s0 : Int32) : jR d 174 18 [u0, u1] [.int s0] μ = some (some (.int s0), μ) :=
  l_iret1 (show gPG 174 18 = some (.ireturn) by decide +kernel) (by decide +kernel)
-- Ref.word
theorem b175_0 (d : Nat) (μ : jM) (a : Nat) : jR (d + 1) 175 0 [.ref a, .retAddr 0] [] μ = (jgI μ 13 17 (.ref a)).bind fun x1 => (if jrecv μ 13 (.ref a) = true then (jC d 174 [.ref a, .int x1] μ).bind fun p2 => jR (d + 1) 175 8 [.ref a, .retAddr 0] (p2.1.toList ++ []) p2.2 else none) :=
  (l_aload_n (show gPG 175 0 = some (.aload_n 0) by decide +kernel) rfl jr_ref).trans <|
  (l_aload_n (show gPG 175 1 = some (.aload_n 0) by decide +kernel) rfl jr_ref).trans <|
  (l_gI (show gPG 175 2 = some (.getfield 185) by decide +kernel) (kd := 13) (sl := 17) (tc := 0) (fin := 0) (z := 0) (by decide +kernel) (by decide +kernel) (by decide +kernel)).trans <| bd_cg fun x1 hx1 =>
  l_callV (u := 1) (v := .ref a) (as := [.int x1]) (show gPG 175 5 = some (jinvI 1 195) by decide +kernel) (by decide) (cc := 174) (na := 2) (kd := 13) (q4 := 0) (z := 10) (rest := []) (by decide +kernel) (by decide +kernel)  rfl (show (2 : Nat) ≤ 2 by decide) rfl cs0 (by decide +kernel) (cai (cav jr_ref ca0))
theorem b175_8 (d : Nat) (μ : jM) (a : Nat) (u1 : Value) (s0 : Int32) : jR (d + 1) 175 8 [.ref a, u1] [.int s0] μ = (jC d 165 [.int s0, .int 97, .int 122] μ).bind fun p1 => jR (d + 1) 175 15 [.ref a, u1] (p1.1.toList ++ []) p1.2 :=
  (l_bipush (show gPG 175 8 = some (.bipush 97) by decide +kernel) (c := 97) (by decide +kernel)).trans <|
  (l_bipush (show gPG 175 10 = some (.bipush 122) by decide +kernel) (c := 122) (by decide +kernel)).trans <|
  l_callS (u := 2) (as := [.int s0, .int 97, .int 122]) (show gPG 175 12 = some (jinvI 2 125) by decide +kernel) (by decide) (cc := 165) (na := 3) (q4 := 0) (z := 12) (rest := []) (by decide +kernel) (by decide +kernel)  rfl (show (3 : Nat) ≤ 3 by decide) rfl cs0 (by decide +kernel) (cai (cai (cai ca0))) (fun e => absurd e (by decide))
theorem b175_15 (d : Nat) (μ : jM) (a : Nat) (u1 : Value) (s0 : Int32) : jR d 175 15 [.ref a, u1] [.int s0] μ = (if s0 = 0 then (jpI μ 13 19 0 (.ref a) 3).bind fun m1 => jR d 175 38 [.ref a, .int 0] [] m1 else (jgI μ 13 17 (.ref a)).bind fun x2 => (jpI μ 13 17 0 (.ref a) (x2 + 1)).bind fun m3 => jR d 175 0 [.ref a, u1] [] m3) :=
  (l_cmp0 (show gPG 175 15 = some (.ifCond .eq 16) by decide +kernel) (t := 31) (by decide +kernel)).trans <| jm_eq.trans <| ite_cg (
  (l_aload_n (show gPG 175 31 = some (.aload_n 0) by decide +kernel) rfl jr_ref).trans <|
  (l_iconst (show gPG 175 32 = some (.iconst 3) by decide +kernel) (c := 3) (by decide +kernel)).trans <|
  (l_pI (show gPG 175 33 = some (.putfield 207) by decide +kernel) (kd := 13) (sl := 19) (tc := 0) (fin := 0) (z := 0) (by decide +kernel) (by decide +kernel) (by decide +kernel)).trans <| bd_cg fun m1 hm1 =>
  (l_iconst (show gPG 175 36 = some (.iconst 0) by decide +kernel) (c := 0) (by decide +kernel)).trans <|
  l_istore_n (show gPG 175 37 = some (.istore_n 1) by decide +kernel) (ls := [.ref a, u1]) (show (1 : Nat) < 2 by decide) (show _ = ([.ref a, .int 0] : List Value) from rfl)) (
  (l_aload_n (show gPG 175 18 = some (.aload_n 0) by decide +kernel) rfl jr_ref).trans <|
  (l_dup (show gPG 175 19 = some (.dup) by decide +kernel) (jr_cat1 jr_ref)).trans <|
  (l_gI (show gPG 175 20 = some (.getfield 185) by decide +kernel) (kd := 13) (sl := 17) (tc := 0) (fin := 0) (z := 0) (by decide +kernel) (by decide +kernel) (by decide +kernel)).trans <| bd_cg fun x2 hx2 =>
  (l_iconst (show gPG 175 23 = some (.iconst 1) by decide +kernel) (c := 1) (by decide +kernel)).trans <|
  (l_iadd (show gPG 175 24 = some (.iadd) by decide +kernel) ).trans <|
  (l_pI (show gPG 175 25 = some (.putfield 185) by decide +kernel) (kd := 13) (sl := 17) (tc := 0) (fin := 0) (z := 0) (by decide +kernel) (by decide +kernel) (by decide +kernel)).trans <| bd_cg fun m3 hm3 =>
  l_goto (show gPG 175 28 = some (.goto (-28)) by decide +kernel) (t := 0) (by decide +kernel))
theorem b175_38 (d : Nat) (μ : jM) (a : Nat) (i1 : Int32) : jR (d + 1) 175 38 [.ref a, .int i1] [] μ = (if i1 < 4 then (jC d 176 [.int i1] μ).bind fun p4 => jR (d + 1) 175 48 [.ref a, .int i1] (p4.1.toList ++ [.ref a]) p4.2 else (jpI μ 13 19 0 (.ref a) 4).bind fun m1 => (jgI m1 13 18 (.ref a)).bind fun x2 => (if jrecv m1 13 (.ref a) = true then (jC d 174 [.ref a, .int x2] m1).bind fun p3 => jR (d + 1) 175 80 [.ref a, .int i1] (p3.1.toList ++ [.ref a]) p3.2 else none)) :=
  (l_iload_n (show gPG 175 38 = some (.iload_n 1) by decide +kernel) rfl).trans <|
  (l_iconst (show gPG 175 39 = some (.iconst 4) by decide +kernel) (c := 4) (by decide +kernel)).trans <|
  (l_cmp (show gPG 175 40 = some (.if_icmp .ge 26) by decide +kernel) (t := 66) (by decide +kernel)).trans <| jm_ge.trans <| ite_cg (
  (l_aload_n (show gPG 175 43 = some (.aload_n 0) by decide +kernel) rfl jr_ref).trans <|
  (l_iload_n (show gPG 175 44 = some (.iload_n 1) by decide +kernel) rfl).trans <|
  l_callS (u := 2) (as := [.int i1]) (show gPG 175 45 = some (jinvI 2 210) by decide +kernel) (by decide) (cc := 176) (na := 1) (q4 := 0) (z := 12) (rest := [.ref a]) (by decide +kernel) (by decide +kernel)  rfl (show (1 : Nat) ≤ 2 by decide) rfl (csv jr_ref cs0) (by decide +kernel) (cai ca0) (fun e => absurd e (by decide))) (
  (l_aload_n (show gPG 175 66 = some (.aload_n 0) by decide +kernel) rfl jr_ref).trans <|
  (l_iconst (show gPG 175 67 = some (.iconst 4) by decide +kernel) (c := 4) (by decide +kernel)).trans <|
  (l_pI (show gPG 175 68 = some (.putfield 207) by decide +kernel) (kd := 13) (sl := 19) (tc := 0) (fin := 0) (z := 0) (by decide +kernel) (by decide +kernel) (by decide +kernel)).trans <| bd_cg fun m1 hm1 =>
  (l_aload_n (show gPG 175 71 = some (.aload_n 0) by decide +kernel) rfl jr_ref).trans <|
  (l_aload_n (show gPG 175 72 = some (.aload_n 0) by decide +kernel) rfl jr_ref).trans <|
  (l_aload_n (show gPG 175 73 = some (.aload_n 0) by decide +kernel) rfl jr_ref).trans <|
  (l_gI (show gPG 175 74 = some (.getfield 188) by decide +kernel) (kd := 13) (sl := 18) (tc := 0) (fin := 0) (z := 0) (by decide +kernel) (by decide +kernel) (by decide +kernel)).trans <| bd_cg fun x2 hx2 =>
  l_callV (u := 1) (v := .ref a) (as := [.int x2]) (show gPG 175 77 = some (jinvI 1 195) by decide +kernel) (by decide) (cc := 174) (na := 2) (kd := 13) (q4 := 0) (z := 10) (rest := [.ref a]) (by decide +kernel) (by decide +kernel)  rfl (show (2 : Nat) ≤ 3 by decide) rfl (csv jr_ref cs0) (by decide +kernel) (cai (cav jr_ref ca0)))
theorem b175_48 (d : Nat) (μ : jM) (a : Nat) (i1 : Int32) (s0 : Value) (s1 : Value) (hs0 : jisref s0 = true) (hs1 : jisref s1 = true) : jR (d + 1) 175 48 [.ref a, .int i1] [s1, s0] μ = (if jrecv μ 13 s0 = true then (jC d 177 [s0, s1] μ).bind fun p1 => jR (d + 1) 175 51 [.ref a, .int i1] (p1.1.toList ++ []) p1.2 else none) :=
  l_callV (u := 1) (v := s0) (as := [s1]) (show gPG 175 48 = some (jinvI 1 214) by decide +kernel) (by decide) (cc := 177) (na := 2) (kd := 13) (q4 := 0) (z := 10) (rest := []) (by decide +kernel) (by decide +kernel)  rfl (show (2 : Nat) ≤ 2 by decide) rfl cs0 (by decide +kernel) (cav hs1 (cav hs0 ca0))
theorem b175_51 (d : Nat) (μ : jM) (a : Nat) (i1 : Int32) (s0 : Int32) : jR d 175 51 [.ref a, .int i1] [.int s0] μ = (if s0 = 0 then jR d 175 38 [.ref a, .int (i1 + 1)] [] μ else (jpI μ 13 20 0 (.ref a) i1).bind fun m1 => some (none, m1)) :=
  (l_cmp0 (show gPG 175 51 = some (.ifCond .eq 9) by decide +kernel) (t := 60) (by decide +kernel)).trans <| jm_eq.trans <| ite_cg (
  (l_iinc (show gPG 175 60 = some (.iinc 1 1) by decide +kernel) (c := 1) (by decide +kernel) rfl (show _ = ([.ref a, .int (i1 + 1)] : List Value) from rfl)).trans <|
  l_goto (show gPG 175 63 = some (.goto (-25)) by decide +kernel) (t := 38) (by decide +kernel)) (
  (l_aload_n (show gPG 175 54 = some (.aload_n 0) by decide +kernel) rfl jr_ref).trans <|
  (l_iload_n (show gPG 175 55 = some (.iload_n 1) by decide +kernel) rfl).trans <|
  (l_pI (show gPG 175 56 = some (.putfield 218) by decide +kernel) (kd := 13) (sl := 20) (tc := 0) (fin := 0) (z := 0) (by decide +kernel) (by decide +kernel) (by decide +kernel)).trans <| bd_cg fun m1 hm1 =>
  l_ret (show gPG 175 59 = some (.return_) by decide +kernel) (by decide +kernel))
theorem b175_80 (d : Nat) (μ : jM) (a : Nat) (u1 : Value) (s0 : Value) (s1 : Int32) (hs0 : jisref s0 = true) : jR d 175 80 [.ref a, u1] [.int s1, s0] μ = (jpI μ 13 20 0 s0 (s1 - 97)).bind fun m1 => (jgI m1 13 17 (.ref a)).bind fun x2 => (jgI m1 13 18 (.ref a)).bind fun x3 => (if 1 < (x2 - x3) then jR d 175 108 [.ref a, u1] [.ref a] m1 else (jgI m1 13 20 (.ref a)).bind fun x4 => (if 2 < x4 then jR d 175 108 [.ref a, u1] [.ref a] m1 else jR d 175 113 [.ref a, u1] [.int 0, .ref a] m1)) :=
  (l_bipush (show gPG 175 80 = some (.bipush 97) by decide +kernel) (c := 97) (by decide +kernel)).trans <|
  (l_isub (show gPG 175 82 = some (.isub) by decide +kernel) ).trans <|
  (l_pI (show gPG 175 83 = some (.putfield 218) by decide +kernel) (kd := 13) (sl := 20) (tc := 0) (fin := 0) (z := 0) (by decide +kernel) (by decide +kernel) (by decide +kernel)).trans <| bd_cg fun m1 hm1 =>
  (l_aload_n (show gPG 175 86 = some (.aload_n 0) by decide +kernel) rfl jr_ref).trans <|
  (l_aload_n (show gPG 175 87 = some (.aload_n 0) by decide +kernel) rfl jr_ref).trans <|
  (l_gI (show gPG 175 88 = some (.getfield 185) by decide +kernel) (kd := 13) (sl := 17) (tc := 0) (fin := 0) (z := 0) (by decide +kernel) (by decide +kernel) (by decide +kernel)).trans <| bd_cg fun x2 hx2 =>
  (l_aload_n (show gPG 175 91 = some (.aload_n 0) by decide +kernel) rfl jr_ref).trans <|
  (l_gI (show gPG 175 92 = some (.getfield 188) by decide +kernel) (kd := 13) (sl := 18) (tc := 0) (fin := 0) (z := 0) (by decide +kernel) (by decide +kernel) (by decide +kernel)).trans <| bd_cg fun x3 hx3 =>
  (l_isub (show gPG 175 95 = some (.isub) by decide +kernel) ).trans <|
  (l_iconst (show gPG 175 96 = some (.iconst 1) by decide +kernel) (c := 1) (by decide +kernel)).trans <|
  (l_cmp (show gPG 175 97 = some (.if_icmp .gt 11) by decide +kernel) (t := 108) (by decide +kernel)).trans <| jm_gt.trans <| ite_cg (
  rfl) (
  (l_aload_n (show gPG 175 100 = some (.aload_n 0) by decide +kernel) rfl jr_ref).trans <|
  (l_gI (show gPG 175 101 = some (.getfield 218) by decide +kernel) (kd := 13) (sl := 20) (tc := 0) (fin := 0) (z := 0) (by decide +kernel) (by decide +kernel) (by decide +kernel)).trans <| bd_cg fun x4 hx4 =>
  (l_iconst (show gPG 175 104 = some (.iconst 2) by decide +kernel) (c := 2) (by decide +kernel)).trans <|
  (l_cmp (show gPG 175 105 = some (.if_icmp .le 7) by decide +kernel) (t := 112) (by decide +kernel)).trans <| jm_le.trans <| ite_cg (
  rfl) (
  l_iconst (show gPG 175 112 = some (.iconst 0) by decide +kernel) (c := 0) (by decide +kernel)))
theorem b175_108 (d : Nat) (μ : jM) (u0 : Value) (u1 : Value) (s0 : Value) (hs0 : jisref s0 = true) : jR d 175 108 [u0, u1] [s0] μ = jR d 175 113 [u0, u1] [.int 1, s0] μ :=
  (l_iconst (show gPG 175 108 = some (.iconst 1) by decide +kernel) (c := 1) (by decide +kernel)).trans <|
  l_goto (show gPG 175 109 = some (.goto 4) by decide +kernel) (t := 113) (by decide +kernel)
theorem b175_113 (d : Nat) (μ : jM) (u0 : Value) (u1 : Value) (s0 : Value) (s1 : Int32) (hs0 : jisref s0 = true) : jR d 175 113 [u0, u1] [.int s1, s0] μ = (jpI μ 13 22 2 s0 s1).bind fun m1 => some (none, m1) :=
  (l_pI (show gPG 175 113 = some (.putfield 221) by decide +kernel) (kd := 13) (sl := 22) (tc := 2) (fin := 0) (z := 0) (by decide +kernel) (by decide +kernel) (by decide +kernel)).trans <| bd_cg fun m1 hm1 =>
  l_ret (show gPG 175 116 = some (.return_) by decide +kernel) (by decide +kernel)
-- Ref.wordOf
theorem b176_0 (d : Nat) (μ : jM) (i0 : Int32) (hx : jX μ) : jR d 176 0 [.int i0] [] μ = (if i0 = 0 then jR d 176 31 [.int i0] [(jext μ 16)] μ else (if i0 = 1 then jR d 176 31 [.int i0] [(jext μ 17)] μ else (if i0 = 2 then jR d 176 31 [.int i0] [(jext μ 18)] μ else jR d 176 31 [.int i0] [(jext μ 19)] μ))) :=
  (l_iload_n (show gPG 176 0 = some (.iload_n 0) by decide +kernel) rfl).trans <|
  (l_cmp0 (show gPG 176 1 = some (.ifCond .ne 8) by decide +kernel) (t := 9) (by decide +kernel)).trans <| jm_ne.trans <| ite_cg (
  (l_ldcs (show gPG 176 4 = some (.ldc 199) by decide +kernel) (j := 16) (by decide +kernel) (by decide +kernel)).trans <|
  l_goto (show gPG 176 6 = some (.goto 25) by decide +kernel) (t := 31) (by decide +kernel)) (
  (l_iload_n (show gPG 176 9 = some (.iload_n 0) by decide +kernel) rfl).trans <|
  (l_iconst (show gPG 176 10 = some (.iconst 1) by decide +kernel) (c := 1) (by decide +kernel)).trans <|
  (l_cmp (show gPG 176 11 = some (.if_icmp .ne 8) by decide +kernel) (t := 19) (by decide +kernel)).trans <| jm_ne.trans <| ite_cg (
  (l_ldcs (show gPG 176 14 = some (.ldc 201) by decide +kernel) (j := 17) (by decide +kernel) (by decide +kernel)).trans <|
  l_goto (show gPG 176 16 = some (.goto 15) by decide +kernel) (t := 31) (by decide +kernel)) (
  (l_iload_n (show gPG 176 19 = some (.iload_n 0) by decide +kernel) rfl).trans <|
  (l_iconst (show gPG 176 20 = some (.iconst 2) by decide +kernel) (c := 2) (by decide +kernel)).trans <|
  (l_cmp (show gPG 176 21 = some (.if_icmp .ne 8) by decide +kernel) (t := 29) (by decide +kernel)).trans <| jm_ne.trans <| ite_cg (
  (l_ldcs (show gPG 176 24 = some (.ldc 203) by decide +kernel) (j := 18) (by decide +kernel) (by decide +kernel)).trans <|
  l_goto (show gPG 176 26 = some (.goto 5) by decide +kernel) (t := 31) (by decide +kernel)) (
  l_ldcs (show gPG 176 29 = some (.ldc 205) by decide +kernel) (j := 19) (by decide +kernel) (by decide +kernel))))
theorem b176_31 (d : Nat) (μ : jM) (u0 : Value) (s0 : Value) (hs0 : jisref s0 = true) : jR d 176 31 [u0] [s0] μ = some (some s0, μ) :=
  l_aret (show gPG 176 31 = some (.areturn) by decide +kernel) (by decide +kernel) hs0
-- Ref.isText
theorem b177_0 (d : Nat) (μ : jM) (a : Nat) (r1 : Value) (h1 : jisref r1 = true) : jR (d + 1) 177 0 [.ref a, r1, .retAddr 0] [] μ = (if jrecv μ 0 r1 = true then (jC d 281 [r1] μ).bind fun p1 => jR (d + 1) 177 4 [.ref a, r1, .retAddr 0] (p1.1.toList ++ []) p1.2 else none) :=
  (l_aload_n (show gPG 177 0 = some (.aload_n 1) by decide +kernel) rfl h1).trans <|
  l_callV (u := 1) (v := r1) (as := []) (show gPG 177 1 = some (jinvI 1 179) by decide +kernel) (by decide) (cc := 281) (na := 1) (kd := 0) (q4 := 0) (z := 10) (rest := []) (by decide +kernel) (by decide +kernel)  rfl (show (1 : Nat) ≤ 1 by decide) rfl cs0 (by decide +kernel) (cav h1 ca0)
theorem b177_4 (d : Nat) (μ : jM) (a : Nat) (r1 : Value) (u2 : Value) (s0 : Int32) (h1 : jisref r1 = true) : jR d 177 4 [.ref a, r1, u2] [.int s0] μ = (jgI μ 13 17 (.ref a)).bind fun x1 => (jgI μ 13 18 (.ref a)).bind fun x2 => (if s0 = (x1 - x2) then jR d 177 20 [.ref a, r1, .int 0] [] μ else some (some (.int 0), μ)) :=
  (l_aload_n (show gPG 177 4 = some (.aload_n 0) by decide +kernel) rfl jr_ref).trans <|
  (l_gI (show gPG 177 5 = some (.getfield 185) by decide +kernel) (kd := 13) (sl := 17) (tc := 0) (fin := 0) (z := 0) (by decide +kernel) (by decide +kernel) (by decide +kernel)).trans <| bd_cg fun x1 hx1 =>
  (l_aload_n (show gPG 177 8 = some (.aload_n 0) by decide +kernel) rfl jr_ref).trans <|
  (l_gI (show gPG 177 9 = some (.getfield 188) by decide +kernel) (kd := 13) (sl := 18) (tc := 0) (fin := 0) (z := 0) (by decide +kernel) (by decide +kernel) (by decide +kernel)).trans <| bd_cg fun x2 hx2 =>
  (l_isub (show gPG 177 12 = some (.isub) by decide +kernel) ).trans <|
  (l_cmp (show gPG 177 13 = some (.if_icmp .eq 5) by decide +kernel) (t := 18) (by decide +kernel)).trans <| jm_eq.trans <| ite_cg (
  (l_iconst (show gPG 177 18 = some (.iconst 0) by decide +kernel) (c := 0) (by decide +kernel)).trans <|
  l_istore_n (show gPG 177 19 = some (.istore_n 2) by decide +kernel) (ls := [.ref a, r1, u2]) (show (2 : Nat) < 3 by decide) (show _ = ([.ref a, r1, .int 0] : List Value) from rfl)) (
  (l_iconst (show gPG 177 16 = some (.iconst 0) by decide +kernel) (c := 0) (by decide +kernel)).trans <|
  l_iretK (show gPG 177 17 = some (.ireturn) by decide +kernel) (by decide +kernel))
theorem b177_20 (d : Nat) (μ : jM) (a : Nat) (r1 : Value) (i2 : Int32) (h1 : jisref r1 = true) : jR (d + 1) 177 20 [.ref a, r1, .int i2] [] μ = (if jrecv μ 0 r1 = true then (jC d 281 [r1] μ).bind fun p1 => jR (d + 1) 177 25 [.ref a, r1, .int i2] (p1.1.toList ++ [.int i2]) p1.2 else none) :=
  (l_iload_n (show gPG 177 20 = some (.iload_n 2) by decide +kernel) rfl).trans <|
  (l_aload_n (show gPG 177 21 = some (.aload_n 1) by decide +kernel) rfl h1).trans <|
  l_callV (u := 1) (v := r1) (as := []) (show gPG 177 22 = some (jinvI 1 179) by decide +kernel) (by decide) (cc := 281) (na := 1) (kd := 0) (q4 := 0) (z := 10) (rest := [.int i2]) (by decide +kernel) (by decide +kernel)  rfl (show (1 : Nat) ≤ 2 by decide) rfl (csi cs0) (by decide +kernel) (cav h1 ca0)
theorem b177_25 (d : Nat) (μ : jM) (a : Nat) (r1 : Value) (i2 : Int32) (s0 : Int32) (s1 : Int32) (h1 : jisref r1 = true) : jR (d + 1) 177 25 [.ref a, r1, .int i2] [.int s1, .int s0] μ = (if s0 < s1 then (if jrecv μ 0 r1 = true then (jC d 283 [r1, .int i2] μ).bind fun p1 => jR (d + 1) 177 33 [.ref a, r1, .int i2] (p1.1.toList ++ []) p1.2 else none) else some (some (.int 1), μ)) :=
  (l_cmp (show gPG 177 25 = some (.if_icmp .ge 29) by decide +kernel) (t := 54) (by decide +kernel)).trans <| jm_ge.trans <| ite_cg (
  (l_aload_n (show gPG 177 28 = some (.aload_n 1) by decide +kernel) rfl h1).trans <|
  (l_iload_n (show gPG 177 29 = some (.iload_n 2) by decide +kernel) rfl).trans <|
  l_callV (u := 1) (v := r1) (as := [.int i2]) (show gPG 177 30 = some (jinvI 1 191) by decide +kernel) (by decide) (cc := 283) (na := 2) (kd := 0) (q4 := 0) (z := 10) (rest := []) (by decide +kernel) (by decide +kernel)  rfl (show (2 : Nat) ≤ 2 by decide) rfl cs0 (by decide +kernel) (cai (cav h1 ca0))) (
  (l_iconst (show gPG 177 54 = some (.iconst 1) by decide +kernel) (c := 1) (by decide +kernel)).trans <|
  l_iretK (show gPG 177 55 = some (.ireturn) by decide +kernel) (by decide +kernel))
theorem b177_33 (d : Nat) (μ : jM) (a : Nat) (r1 : Value) (i2 : Int32) (s0 : Int32) (h1 : jisref r1 = true) : jR (d + 1) 177 33 [.ref a, r1, .int i2] [.int s0] μ = (jgI μ 13 18 (.ref a)).bind fun x1 => (if jrecv μ 13 (.ref a) = true then (jC d 174 [.ref a, .int (x1 + i2)] μ).bind fun p2 => jR (d + 1) 177 43 [.ref a, r1, .int i2] (p2.1.toList ++ [.int s0]) p2.2 else none) :=
  (l_aload_n (show gPG 177 33 = some (.aload_n 0) by decide +kernel) rfl jr_ref).trans <|
  (l_aload_n (show gPG 177 34 = some (.aload_n 0) by decide +kernel) rfl jr_ref).trans <|
  (l_gI (show gPG 177 35 = some (.getfield 188) by decide +kernel) (kd := 13) (sl := 18) (tc := 0) (fin := 0) (z := 0) (by decide +kernel) (by decide +kernel) (by decide +kernel)).trans <| bd_cg fun x1 hx1 =>
  (l_iload_n (show gPG 177 38 = some (.iload_n 2) by decide +kernel) rfl).trans <|
  (l_iadd (show gPG 177 39 = some (.iadd) by decide +kernel) ).trans <|
  l_callV (u := 1) (v := .ref a) (as := [.int (x1 + i2)]) (show gPG 177 40 = some (jinvI 1 195) by decide +kernel) (by decide) (cc := 174) (na := 2) (kd := 13) (q4 := 0) (z := 10) (rest := [.int s0]) (by decide +kernel) (by decide +kernel)  rfl (show (2 : Nat) ≤ 3 by decide) rfl (csi cs0) (by decide +kernel) (cai (cav jr_ref ca0))
theorem b177_43 (d : Nat) (μ : jM) (a : Nat) (r1 : Value) (i2 : Int32) (s0 : Int32) (s1 : Int32) (h1 : jisref r1 = true) : jR d 177 43 [.ref a, r1, .int i2] [.int s1, .int s0] μ = (if s0 = s1 then jR d 177 20 [.ref a, r1, .int (i2 + 1)] [] μ else some (some (.int 0), μ)) :=
  (l_cmp (show gPG 177 43 = some (.if_icmp .eq 5) by decide +kernel) (t := 48) (by decide +kernel)).trans <| jm_eq.trans <| ite_cg (
  (l_iinc (show gPG 177 48 = some (.iinc 2 1) by decide +kernel) (c := 1) (by decide +kernel) rfl (show _ = ([.ref a, r1, .int (i2 + 1)] : List Value) from rfl)).trans <|
  l_goto (show gPG 177 51 = some (.goto (-31)) by decide +kernel) (t := 20) (by decide +kernel)) (
  (l_iconst (show gPG 177 46 = some (.iconst 0) by decide +kernel) (c := 0) (by decide +kernel)).trans <|
  l_iretK (show gPG 177 47 = some (.ireturn) by decide +kernel) (by decide +kernel))
-- Ref.digits
theorem b178_0 (d : Nat) (μ : jM) (a : Nat) : jR d 178 0 [.ref a] [] μ = (jpI μ 13 19 0 (.ref a) 1).bind fun m1 => (jpI m1 13 20 0 (.ref a) 0).bind fun m2 => jR d 178 10 [.ref a] [] m2 :=
  (l_aload_n (show gPG 178 0 = some (.aload_n 0) by decide +kernel) rfl jr_ref).trans <|
  (l_iconst (show gPG 178 1 = some (.iconst 1) by decide +kernel) (c := 1) (by decide +kernel)).trans <|
  (l_pI (show gPG 178 2 = some (.putfield 207) by decide +kernel) (kd := 13) (sl := 19) (tc := 0) (fin := 0) (z := 0) (by decide +kernel) (by decide +kernel) (by decide +kernel)).trans <| bd_cg fun m1 hm1 =>
  (l_aload_n (show gPG 178 5 = some (.aload_n 0) by decide +kernel) rfl jr_ref).trans <|
  (l_iconst (show gPG 178 6 = some (.iconst 0) by decide +kernel) (c := 0) (by decide +kernel)).trans <|
  (l_pI (show gPG 178 7 = some (.putfield 218) by decide +kernel) (kd := 13) (sl := 20) (tc := 0) (fin := 0) (z := 0) (by decide +kernel) (by decide +kernel) (by decide +kernel)).trans <| bd_cg fun m2 hm2 =>
  rfl
theorem b178_10 (d : Nat) (μ : jM) (a : Nat) : jR (d + 1) 178 10 [.ref a] [] μ = (jgI μ 13 17 (.ref a)).bind fun x1 => (if jrecv μ 13 (.ref a) = true then (jC d 174 [.ref a, .int x1] μ).bind fun p2 => jR (d + 1) 178 18 [.ref a] (p2.1.toList ++ []) p2.2 else none) :=
  (l_aload_n (show gPG 178 10 = some (.aload_n 0) by decide +kernel) rfl jr_ref).trans <|
  (l_aload_n (show gPG 178 11 = some (.aload_n 0) by decide +kernel) rfl jr_ref).trans <|
  (l_gI (show gPG 178 12 = some (.getfield 185) by decide +kernel) (kd := 13) (sl := 17) (tc := 0) (fin := 0) (z := 0) (by decide +kernel) (by decide +kernel) (by decide +kernel)).trans <| bd_cg fun x1 hx1 =>
  l_callV (u := 1) (v := .ref a) (as := [.int x1]) (show gPG 178 15 = some (jinvI 1 195) by decide +kernel) (by decide) (cc := 174) (na := 2) (kd := 13) (q4 := 0) (z := 10) (rest := []) (by decide +kernel) (by decide +kernel)  rfl (show (2 : Nat) ≤ 2 by decide) rfl cs0 (by decide +kernel) (cai (cav jr_ref ca0))
theorem b178_18 (d : Nat) (μ : jM) (a : Nat) (s0 : Int32) : jR (d + 1) 178 18 [.ref a] [.int s0] μ = (jC d 165 [.int s0, .int 48, .int 57] μ).bind fun p1 => jR (d + 1) 178 25 [.ref a] (p1.1.toList ++ []) p1.2 :=
  (l_bipush (show gPG 178 18 = some (.bipush 48) by decide +kernel) (c := 48) (by decide +kernel)).trans <|
  (l_bipush (show gPG 178 20 = some (.bipush 57) by decide +kernel) (c := 57) (by decide +kernel)).trans <|
  l_callS (u := 2) (as := [.int s0, .int 48, .int 57]) (show gPG 178 22 = some (jinvI 2 125) by decide +kernel) (by decide) (cc := 165) (na := 3) (q4 := 0) (z := 12) (rest := []) (by decide +kernel) (by decide +kernel)  rfl (show (3 : Nat) ≤ 3 by decide) rfl cs0 (by decide +kernel) (cai (cai (cai ca0))) (fun e => absurd e (by decide))
theorem b178_25 (d : Nat) (μ : jM) (a : Nat) (s0 : Int32) : jR (d + 1) 178 25 [.ref a] [.int s0] μ = (if s0 = 0 then (jgI μ 13 17 (.ref a)).bind fun x1 => (jgI μ 13 18 (.ref a)).bind fun x2 => (if 6 < (x1 - x2) then jR (d + 1) 178 98 [.ref a] [.int 1, .ref a] μ else jR (d + 1) 178 98 [.ref a] [.int 0, .ref a] μ) else (jgI μ 13 17 (.ref a)).bind fun x3 => (jgI μ 13 18 (.ref a)).bind fun x4 => (if (x3 - x4) < 6 then (jgI μ 13 20 (.ref a)).bind fun x5 => (jgI μ 13 17 (.ref a)).bind fun x6 => (if jrecv μ 13 (.ref a) = true then (jC d 174 [.ref a, .int x6] μ).bind fun p7 => jR (d + 1) 178 58 [.ref a] (p7.1.toList ++ [.int (10 * x5), .ref a]) p7.2 else none) else jR (d + 1) 178 65 [.ref a] [] μ)) :=
  (l_cmp0 (show gPG 178 25 = some (.ifCond .eq 53) by decide +kernel) (t := 78) (by decide +kernel)).trans <| jm_eq.trans <| ite_cg (
  (l_aload_n (show gPG 178 78 = some (.aload_n 0) by decide +kernel) rfl jr_ref).trans <|
  (l_aload_n (show gPG 178 79 = some (.aload_n 0) by decide +kernel) rfl jr_ref).trans <|
  (l_gI (show gPG 178 80 = some (.getfield 185) by decide +kernel) (kd := 13) (sl := 17) (tc := 0) (fin := 0) (z := 0) (by decide +kernel) (by decide +kernel) (by decide +kernel)).trans <| bd_cg fun x1 hx1 =>
  (l_aload_n (show gPG 178 83 = some (.aload_n 0) by decide +kernel) rfl jr_ref).trans <|
  (l_gI (show gPG 178 84 = some (.getfield 188) by decide +kernel) (kd := 13) (sl := 18) (tc := 0) (fin := 0) (z := 0) (by decide +kernel) (by decide +kernel) (by decide +kernel)).trans <| bd_cg fun x2 hx2 =>
  (l_isub (show gPG 178 87 = some (.isub) by decide +kernel) ).trans <|
  (l_bipush (show gPG 178 88 = some (.bipush 6) by decide +kernel) (c := 6) (by decide +kernel)).trans <|
  (l_cmp (show gPG 178 90 = some (.if_icmp .le 7) by decide +kernel) (t := 97) (by decide +kernel)).trans <| jm_le.trans <| ite_cg (
  (l_iconst (show gPG 178 93 = some (.iconst 1) by decide +kernel) (c := 1) (by decide +kernel)).trans <|
  l_goto (show gPG 178 94 = some (.goto 4) by decide +kernel) (t := 98) (by decide +kernel)) (
  l_iconst (show gPG 178 97 = some (.iconst 0) by decide +kernel) (c := 0) (by decide +kernel))) (
  (l_aload_n (show gPG 178 28 = some (.aload_n 0) by decide +kernel) rfl jr_ref).trans <|
  (l_gI (show gPG 178 29 = some (.getfield 185) by decide +kernel) (kd := 13) (sl := 17) (tc := 0) (fin := 0) (z := 0) (by decide +kernel) (by decide +kernel) (by decide +kernel)).trans <| bd_cg fun x3 hx3 =>
  (l_aload_n (show gPG 178 32 = some (.aload_n 0) by decide +kernel) rfl jr_ref).trans <|
  (l_gI (show gPG 178 33 = some (.getfield 188) by decide +kernel) (kd := 13) (sl := 18) (tc := 0) (fin := 0) (z := 0) (by decide +kernel) (by decide +kernel) (by decide +kernel)).trans <| bd_cg fun x4 hx4 =>
  (l_isub (show gPG 178 36 = some (.isub) by decide +kernel) ).trans <|
  (l_bipush (show gPG 178 37 = some (.bipush 6) by decide +kernel) (c := 6) (by decide +kernel)).trans <|
  (l_cmp (show gPG 178 39 = some (.if_icmp .ge 26) by decide +kernel) (t := 65) (by decide +kernel)).trans <| jm_ge.trans <| ite_cg (
  (l_aload_n (show gPG 178 42 = some (.aload_n 0) by decide +kernel) rfl jr_ref).trans <|
  (l_bipush (show gPG 178 43 = some (.bipush 10) by decide +kernel) (c := 10) (by decide +kernel)).trans <|
  (l_aload_n (show gPG 178 45 = some (.aload_n 0) by decide +kernel) rfl jr_ref).trans <|
  (l_gI (show gPG 178 46 = some (.getfield 218) by decide +kernel) (kd := 13) (sl := 20) (tc := 0) (fin := 0) (z := 0) (by decide +kernel) (by decide +kernel) (by decide +kernel)).trans <| bd_cg fun x5 hx5 =>
  (l_imul (show gPG 178 49 = some (.imul) by decide +kernel) ).trans <|
  (l_aload_n (show gPG 178 50 = some (.aload_n 0) by decide +kernel) rfl jr_ref).trans <|
  (l_aload_n (show gPG 178 51 = some (.aload_n 0) by decide +kernel) rfl jr_ref).trans <|
  (l_gI (show gPG 178 52 = some (.getfield 185) by decide +kernel) (kd := 13) (sl := 17) (tc := 0) (fin := 0) (z := 0) (by decide +kernel) (by decide +kernel) (by decide +kernel)).trans <| bd_cg fun x6 hx6 =>
  l_callV (u := 1) (v := .ref a) (as := [.int x6]) (show gPG 178 55 = some (jinvI 1 195) by decide +kernel) (by decide) (cc := 174) (na := 2) (kd := 13) (q4 := 0) (z := 10) (rest := [.int (10 * x5), .ref a]) (by decide +kernel) (by decide +kernel)  rfl (show (2 : Nat) ≤ 4 by decide) rfl (csi (csv jr_ref cs0)) (by decide +kernel) (cai (cav jr_ref ca0))) (
  rfl))
theorem b178_58 (d : Nat) (μ : jM) (a : Nat) (s0 : Value) (s1 : Int32) (s2 : Int32) (hs0 : jisref s0 = true) : jR d 178 58 [.ref a] [.int s2, .int s1, s0] μ = (jpI μ 13 20 0 s0 ((s1 + s2) - 48)).bind fun m1 => jR d 178 65 [.ref a] [] m1 :=
  (l_iadd (show gPG 178 58 = some (.iadd) by decide +kernel) ).trans <|
  (l_bipush (show gPG 178 59 = some (.bipush 48) by decide +kernel) (c := 48) (by decide +kernel)).trans <|
  (l_isub (show gPG 178 61 = some (.isub) by decide +kernel) ).trans <|
  (l_pI (show gPG 178 62 = some (.putfield 218) by decide +kernel) (kd := 13) (sl := 20) (tc := 0) (fin := 0) (z := 0) (by decide +kernel) (by decide +kernel) (by decide +kernel)).trans <| bd_cg fun m1 hm1 =>
  rfl
theorem b178_65 (d : Nat) (μ : jM) (a : Nat) : jR d 178 65 [.ref a] [] μ = (jgI μ 13 17 (.ref a)).bind fun x1 => (jpI μ 13 17 0 (.ref a) (x1 + 1)).bind fun m2 => jR d 178 10 [.ref a] [] m2 :=
  (l_aload_n (show gPG 178 65 = some (.aload_n 0) by decide +kernel) rfl jr_ref).trans <|
  (l_dup (show gPG 178 66 = some (.dup) by decide +kernel) (jr_cat1 jr_ref)).trans <|
  (l_gI (show gPG 178 67 = some (.getfield 185) by decide +kernel) (kd := 13) (sl := 17) (tc := 0) (fin := 0) (z := 0) (by decide +kernel) (by decide +kernel) (by decide +kernel)).trans <| bd_cg fun x1 hx1 =>
  (l_iconst (show gPG 178 70 = some (.iconst 1) by decide +kernel) (c := 1) (by decide +kernel)).trans <|
  (l_iadd (show gPG 178 71 = some (.iadd) by decide +kernel) ).trans <|
  (l_pI (show gPG 178 72 = some (.putfield 185) by decide +kernel) (kd := 13) (sl := 17) (tc := 0) (fin := 0) (z := 0) (by decide +kernel) (by decide +kernel) (by decide +kernel)).trans <| bd_cg fun m2 hm2 =>
  l_goto (show gPG 178 75 = some (.goto (-65)) by decide +kernel) (t := 10) (by decide +kernel)
theorem b178_98 (d : Nat) (μ : jM) (u0 : Value) (s0 : Value) (s1 : Int32) (hs0 : jisref s0 = true) : jR d 178 98 [u0] [.int s1, s0] μ = (jpI μ 13 22 2 s0 s1).bind fun m1 => some (none, m1) :=
  (l_pI (show gPG 178 98 = some (.putfield 221) by decide +kernel) (kd := 13) (sl := 22) (tc := 2) (fin := 0) (z := 0) (by decide +kernel) (by decide +kernel) (by decide +kernel)).trans <| bd_cg fun m1 hm1 =>
  l_ret (show gPG 178 101 = some (.return_) by decide +kernel) (by decide +kernel)
-- Ref.isSign
theorem b179_0 (d : Nat) (μ : jM) (a : Nat) (i1 : Int32) : jR d 179 0 [.ref a, .int i1] [] μ = (jgI μ 13 22 (.ref a)).bind fun x1 => (if x1 = 0 then (jgI μ 13 19 (.ref a)).bind fun x2 => (if x2 = 2 then (jgI μ 13 20 (.ref a)).bind fun x3 => (if x3 = i1 then jR d 179 28 [.ref a, .int i1] [.int 1] μ else jR d 179 27 [.ref a, .int i1] [] μ) else jR d 179 27 [.ref a, .int i1] [] μ) else jR d 179 27 [.ref a, .int i1] [] μ) :=
  (l_aload_n (show gPG 179 0 = some (.aload_n 0) by decide +kernel) rfl jr_ref).trans <|
  (l_gI (show gPG 179 1 = some (.getfield 221) by decide +kernel) (kd := 13) (sl := 22) (tc := 2) (fin := 0) (z := 0) (by decide +kernel) (by decide +kernel) (by decide +kernel)).trans <| bd_cg fun x1 hx1 =>
  (l_cmp0 (show gPG 179 4 = some (.ifCond .ne 23) by decide +kernel) (t := 27) (by decide +kernel)).trans <| jm_ne.trans <| ite_cg (
  (l_aload_n (show gPG 179 7 = some (.aload_n 0) by decide +kernel) rfl jr_ref).trans <|
  (l_gI (show gPG 179 8 = some (.getfield 207) by decide +kernel) (kd := 13) (sl := 19) (tc := 0) (fin := 0) (z := 0) (by decide +kernel) (by decide +kernel) (by decide +kernel)).trans <| bd_cg fun x2 hx2 =>
  (l_iconst (show gPG 179 11 = some (.iconst 2) by decide +kernel) (c := 2) (by decide +kernel)).trans <|
  (l_cmp (show gPG 179 12 = some (.if_icmp .ne 15) by decide +kernel) (t := 27) (by decide +kernel)).trans <| jm_ne.trans <| ite_cg (
  (l_aload_n (show gPG 179 15 = some (.aload_n 0) by decide +kernel) rfl jr_ref).trans <|
  (l_gI (show gPG 179 16 = some (.getfield 218) by decide +kernel) (kd := 13) (sl := 20) (tc := 0) (fin := 0) (z := 0) (by decide +kernel) (by decide +kernel) (by decide +kernel)).trans <| bd_cg fun x3 hx3 =>
  (l_iload_n (show gPG 179 19 = some (.iload_n 1) by decide +kernel) rfl).trans <|
  (l_cmp (show gPG 179 20 = some (.if_icmp .ne 7) by decide +kernel) (t := 27) (by decide +kernel)).trans <| jm_ne.trans <| ite_cg (
  (l_iconst (show gPG 179 23 = some (.iconst 1) by decide +kernel) (c := 1) (by decide +kernel)).trans <|
  l_goto (show gPG 179 24 = some (.goto 4) by decide +kernel) (t := 28) (by decide +kernel)) (
  rfl)) (
  rfl)) (
  rfl)
theorem b179_27 (d : Nat) (μ : jM) (u0 : Value) (u1 : Value) : jR d 179 27 [u0, u1] [] μ = jR d 179 28 [u0, u1] [.int 0] μ :=
  l_iconst (show gPG 179 27 = some (.iconst 0) by decide +kernel) (c := 0) (by decide +kernel)
theorem b179_28 (d : Nat) (μ : jM) (u0 : Value) (u1 : Value) (s0 : Int32) : jR d 179 28 [u0, u1] [.int s0] μ = (if jrf 4 s0 = true then some (some (.int s0), μ) else none) :=
  l_iret (show gPG 179 28 = some (.ireturn) by decide +kernel) (rc := 4) (by decide +kernel)
-- Ref.sum
theorem b180_0 (d : Nat) (μ : jM) (a : Nat) : jR (d + 1) 180 0 [.ref a] [] μ = (if jrecv μ 13 (.ref a) = true then (jC d 181 [.ref a] μ).bind fun p1 => jR (d + 1) 180 4 [.ref a] (p1.1.toList ++ []) p1.2 else none) :=
  (l_aload_n (show gPG 180 0 = some (.aload_n 0) by decide +kernel) rfl jr_ref).trans <|
  l_callV (u := 1) (v := .ref a) (as := []) (show gPG 180 1 = some (jinvI 1 276) by decide +kernel) (by decide) (cc := 181) (na := 1) (kd := 13) (q4 := 0) (z := 10) (rest := []) (by decide +kernel) (by decide +kernel)  rfl (show (1 : Nat) ≤ 1 by decide) rfl cs0 (by decide +kernel) (cav jr_ref ca0)
theorem b180_4 (d : Nat) (μ : jM) (a : Nat) : jR (d + 1) 180 4 [.ref a] [] μ = (if jrecv μ 13 (.ref a) = true then (jC d 179 [.ref a, .int 43] μ).bind fun p1 => jR (d + 1) 180 10 [.ref a] (p1.1.toList ++ []) p1.2 else none) :=
  (l_aload_n (show gPG 180 4 = some (.aload_n 0) by decide +kernel) rfl jr_ref).trans <|
  (l_bipush (show gPG 180 5 = some (.bipush 43) by decide +kernel) (c := 43) (by decide +kernel)).trans <|
  l_callV (u := 1) (v := .ref a) (as := [.int 43]) (show gPG 180 7 = some (jinvI 1 238) by decide +kernel) (by decide) (cc := 179) (na := 2) (kd := 13) (q4 := 0) (z := 10) (rest := []) (by decide +kernel) (by decide +kernel)  rfl (show (2 : Nat) ≤ 2 by decide) rfl cs0 (by decide +kernel) (cai (cav jr_ref ca0))
theorem b180_10 (d : Nat) (μ : jM) (a : Nat) (s0 : Int32) : jR (d + 1) 180 10 [.ref a] [.int s0] μ = (if s0 = 0 then (if jrecv μ 13 (.ref a) = true then (jC d 179 [.ref a, .int 45] μ).bind fun p1 => jR (d + 1) 180 19 [.ref a] (p1.1.toList ++ []) p1.2 else none) else jR (d + 1) 180 22 [.ref a] [] μ) :=
  (l_cmp0 (show gPG 180 10 = some (.ifCond .ne 12) by decide +kernel) (t := 22) (by decide +kernel)).trans <| jm_ne.trans <| ite_cg (
  (l_aload_n (show gPG 180 13 = some (.aload_n 0) by decide +kernel) rfl jr_ref).trans <|
  (l_bipush (show gPG 180 14 = some (.bipush 45) by decide +kernel) (c := 45) (by decide +kernel)).trans <|
  l_callV (u := 1) (v := .ref a) (as := [.int 45]) (show gPG 180 16 = some (jinvI 1 238) by decide +kernel) (by decide) (cc := 179) (na := 2) (kd := 13) (q4 := 0) (z := 10) (rest := []) (by decide +kernel) (by decide +kernel)  rfl (show (2 : Nat) ≤ 2 by decide) rfl cs0 (by decide +kernel) (cai (cav jr_ref ca0))) (
  rfl)
theorem b180_19 (d : Nat) (μ : jM) (a : Nat) (s0 : Int32) : jR d 180 19 [.ref a] [.int s0] μ = (if s0 = 0 then some (none, μ) else jR d 180 22 [.ref a] [] μ) :=
  (l_cmp0 (show gPG 180 19 = some (.ifCond .eq 18) by decide +kernel) (t := 37) (by decide +kernel)).trans <| jm_eq.trans <| ite_cg (
  l_ret (show gPG 180 37 = some (.return_) by decide +kernel) (by decide +kernel)) (
  rfl)
theorem b180_22 (d : Nat) (μ : jM) (a : Nat) : jR (d + 1) 180 22 [.ref a] [] μ = (jgI μ 13 20 (.ref a)).bind fun x1 => (if jrecv μ 13 (.ref a) = true then (jC d 186 [.ref a, .int x1] μ).bind fun p2 => jR (d + 1) 180 30 [.ref a] (p2.1.toList ++ []) p2.2 else none) :=
  (l_aload_n (show gPG 180 22 = some (.aload_n 0) by decide +kernel) rfl jr_ref).trans <|
  (l_aload_n (show gPG 180 23 = some (.aload_n 0) by decide +kernel) rfl jr_ref).trans <|
  (l_gI (show gPG 180 24 = some (.getfield 218) by decide +kernel) (kd := 13) (sl := 20) (tc := 0) (fin := 0) (z := 0) (by decide +kernel) (by decide +kernel) (by decide +kernel)).trans <| bd_cg fun x1 hx1 =>
  l_callV (u := 1) (v := .ref a) (as := [.int x1]) (show gPG 180 27 = some (jinvI 1 263) by decide +kernel) (by decide) (cc := 186) (na := 2) (kd := 13) (q4 := 0) (z := 10) (rest := []) (by decide +kernel) (by decide +kernel)  rfl (show (2 : Nat) ≤ 2 by decide) rfl cs0 (by decide +kernel) (cai (cav jr_ref ca0))
theorem b180_30 (d : Nat) (μ : jM) (a : Nat) : jR (d + 1) 180 30 [.ref a] [] μ = (if jrecv μ 13 (.ref a) = true then (jC d 181 [.ref a] μ).bind fun p1 => jR (d + 1) 180 34 [.ref a] (p1.1.toList ++ []) p1.2 else none) :=
  (l_aload_n (show gPG 180 30 = some (.aload_n 0) by decide +kernel) rfl jr_ref).trans <|
  l_callV (u := 1) (v := .ref a) (as := []) (show gPG 180 31 = some (jinvI 1 276) by decide +kernel) (by decide) (cc := 181) (na := 1) (kd := 13) (q4 := 0) (z := 10) (rest := []) (by decide +kernel) (by decide +kernel)  rfl (show (1 : Nat) ≤ 1 by decide) rfl cs0 (by decide +kernel) (cav jr_ref ca0)
theorem b180_34 (d : Nat) (μ : jM) (a : Nat) : jR d 180 34 [.ref a] [] μ = jR d 180 4 [.ref a] [] μ :=
  l_goto (show gPG 180 34 = some (.goto (-30)) by decide +kernel) (t := 4) (by decide +kernel)
-- Ref.part
theorem b181_0 (d : Nat) (μ : jM) (a : Nat) : jR (d + 1) 181 0 [.ref a] [] μ = (if jrecv μ 13 (.ref a) = true then (jC d 182 [.ref a] μ).bind fun p1 => jR (d + 1) 181 4 [.ref a] (p1.1.toList ++ []) p1.2 else none) :=
  (l_aload_n (show gPG 181 0 = some (.aload_n 0) by decide +kernel) rfl jr_ref).trans <|
  l_callV (u := 1) (v := .ref a) (as := []) (show gPG 181 1 = some (jinvI 1 267) by decide +kernel) (by decide) (cc := 182) (na := 1) (kd := 13) (q4 := 0) (z := 10) (rest := []) (by decide +kernel) (by decide +kernel)  rfl (show (1 : Nat) ≤ 1 by decide) rfl cs0 (by decide +kernel) (cav jr_ref ca0)
theorem b181_4 (d : Nat) (μ : jM) (a : Nat) : jR (d + 1) 181 4 [.ref a] [] μ = (if jrecv μ 13 (.ref a) = true then (jC d 179 [.ref a, .int 42] μ).bind fun p1 => jR (d + 1) 181 10 [.ref a] (p1.1.toList ++ []) p1.2 else none) :=
  (l_aload_n (show gPG 181 4 = some (.aload_n 0) by decide +kernel) rfl jr_ref).trans <|
  (l_bipush (show gPG 181 5 = some (.bipush 42) by decide +kernel) (c := 42) (by decide +kernel)).trans <|
  l_callV (u := 1) (v := .ref a) (as := [.int 42]) (show gPG 181 7 = some (jinvI 1 238) by decide +kernel) (by decide) (cc := 179) (na := 2) (kd := 13) (q4 := 0) (z := 10) (rest := []) (by decide +kernel) (by decide +kernel)  rfl (show (2 : Nat) ≤ 2 by decide) rfl cs0 (by decide +kernel) (cai (cav jr_ref ca0))
theorem b181_10 (d : Nat) (μ : jM) (a : Nat) (s0 : Int32) : jR (d + 1) 181 10 [.ref a] [.int s0] μ = (if s0 = 0 then some (none, μ) else (if jrecv μ 13 (.ref a) = true then (jC d 186 [.ref a, .int 42] μ).bind fun p1 => jR (d + 1) 181 19 [.ref a] (p1.1.toList ++ []) p1.2 else none)) :=
  (l_cmp0 (show gPG 181 10 = some (.ifCond .eq 16) by decide +kernel) (t := 26) (by decide +kernel)).trans <| jm_eq.trans <| ite_cg (
  l_ret (show gPG 181 26 = some (.return_) by decide +kernel) (by decide +kernel)) (
  (l_aload_n (show gPG 181 13 = some (.aload_n 0) by decide +kernel) rfl jr_ref).trans <|
  (l_bipush (show gPG 181 14 = some (.bipush 42) by decide +kernel) (c := 42) (by decide +kernel)).trans <|
  l_callV (u := 1) (v := .ref a) (as := [.int 42]) (show gPG 181 16 = some (jinvI 1 263) by decide +kernel) (by decide) (cc := 186) (na := 2) (kd := 13) (q4 := 0) (z := 10) (rest := []) (by decide +kernel) (by decide +kernel)  rfl (show (2 : Nat) ≤ 2 by decide) rfl cs0 (by decide +kernel) (cai (cav jr_ref ca0)))
theorem b181_19 (d : Nat) (μ : jM) (a : Nat) : jR (d + 1) 181 19 [.ref a] [] μ = (if jrecv μ 13 (.ref a) = true then (jC d 182 [.ref a] μ).bind fun p1 => jR (d + 1) 181 23 [.ref a] (p1.1.toList ++ []) p1.2 else none) :=
  (l_aload_n (show gPG 181 19 = some (.aload_n 0) by decide +kernel) rfl jr_ref).trans <|
  l_callV (u := 1) (v := .ref a) (as := []) (show gPG 181 20 = some (jinvI 1 267) by decide +kernel) (by decide) (cc := 182) (na := 1) (kd := 13) (q4 := 0) (z := 10) (rest := []) (by decide +kernel) (by decide +kernel)  rfl (show (1 : Nat) ≤ 1 by decide) rfl cs0 (by decide +kernel) (cav jr_ref ca0)
theorem b181_23 (d : Nat) (μ : jM) (a : Nat) : jR d 181 23 [.ref a] [] μ = jR d 181 4 [.ref a] [] μ :=
  l_goto (show gPG 181 23 = some (.goto (-19)) by decide +kernel) (t := 4) (by decide +kernel)
-- Ref.one
theorem b182_0 (d : Nat) (μ : jM) (a : Nat) : jR (d + 1) 182 0 [.ref a] [] μ = (jgI μ 13 22 (.ref a)).bind fun x1 => (if x1 = 0 then (jgI μ 13 19 (.ref a)).bind fun x2 => (if x2 = 1 then (jgI μ 13 20 (.ref a)).bind fun x4 => (if jrecv μ 13 (.ref a) = true then (jC d 183 [.ref a, .int 0, .int x4] μ).bind fun p5 => jR (d + 1) 182 25 [.ref a] (p5.1.toList ++ []) p5.2 else none) else (if jrecv μ 13 (.ref a) = true then (jC d 179 [.ref a, .int 45] μ).bind fun p3 => jR (d + 1) 182 38 [.ref a] (p3.1.toList ++ []) p3.2 else none)) else some (none, μ)) :=
  (l_aload_n (show gPG 182 0 = some (.aload_n 0) by decide +kernel) rfl jr_ref).trans <|
  (l_gI (show gPG 182 1 = some (.getfield 221) by decide +kernel) (kd := 13) (sl := 22) (tc := 2) (fin := 0) (z := 0) (by decide +kernel) (by decide +kernel) (by decide +kernel)).trans <| bd_cg fun x1 hx1 =>
  (l_cmp0 (show gPG 182 4 = some (.ifCond .eq 4) by decide +kernel) (t := 8) (by decide +kernel)).trans <| jm_eq.trans <| ite_cg (
  (l_aload_n (show gPG 182 8 = some (.aload_n 0) by decide +kernel) rfl jr_ref).trans <|
  (l_gI (show gPG 182 9 = some (.getfield 207) by decide +kernel) (kd := 13) (sl := 19) (tc := 0) (fin := 0) (z := 0) (by decide +kernel) (by decide +kernel) (by decide +kernel)).trans <| bd_cg fun x2 hx2 =>
  (l_iconst (show gPG 182 12 = some (.iconst 1) by decide +kernel) (c := 1) (by decide +kernel)).trans <|
  (l_cmp (show gPG 182 13 = some (.if_icmp .ne 19) by decide +kernel) (t := 32) (by decide +kernel)).trans <| jm_ne.trans <| ite_cg (
  (l_aload_n (show gPG 182 16 = some (.aload_n 0) by decide +kernel) rfl jr_ref).trans <|
  (l_iconst (show gPG 182 17 = some (.iconst 0) by decide +kernel) (c := 0) (by decide +kernel)).trans <|
  (l_aload_n (show gPG 182 18 = some (.aload_n 0) by decide +kernel) rfl jr_ref).trans <|
  (l_gI (show gPG 182 19 = some (.getfield 218) by decide +kernel) (kd := 13) (sl := 20) (tc := 0) (fin := 0) (z := 0) (by decide +kernel) (by decide +kernel) (by decide +kernel)).trans <| bd_cg fun x4 hx4 =>
  l_callV (u := 1) (v := .ref a) (as := [.int 0, .int x4]) (show gPG 182 22 = some (jinvI 1 245) by decide +kernel) (by decide) (cc := 183) (na := 3) (kd := 13) (q4 := 0) (z := 10) (rest := []) (by decide +kernel) (by decide +kernel)  rfl (show (3 : Nat) ≤ 3 by decide) rfl cs0 (by decide +kernel) (cai (cai (cav jr_ref ca0)))) (
  (l_aload_n (show gPG 182 32 = some (.aload_n 0) by decide +kernel) rfl jr_ref).trans <|
  (l_bipush (show gPG 182 33 = some (.bipush 45) by decide +kernel) (c := 45) (by decide +kernel)).trans <|
  l_callV (u := 1) (v := .ref a) (as := [.int 45]) (show gPG 182 35 = some (jinvI 1 238) by decide +kernel) (by decide) (cc := 179) (na := 2) (kd := 13) (q4 := 0) (z := 10) (rest := []) (by decide +kernel) (by decide +kernel)  rfl (show (2 : Nat) ≤ 2 by decide) rfl cs0 (by decide +kernel) (cai (cav jr_ref ca0)))) (
  l_ret (show gPG 182 7 = some (.return_) by decide +kernel) (by decide +kernel))
theorem b182_25 (d : Nat) (μ : jM) (a : Nat) : jR (d + 1) 182 25 [.ref a] [] μ = (if jrecv μ 13 (.ref a) = true then (jC d 173 [.ref a] μ).bind fun p1 => jR (d + 1) 182 29 [.ref a] (p1.1.toList ++ []) p1.2 else none) :=
  (l_aload_n (show gPG 182 25 = some (.aload_n 0) by decide +kernel) rfl jr_ref).trans <|
  l_callV (u := 1) (v := .ref a) (as := []) (show gPG 182 26 = some (jinvI 1 247) by decide +kernel) (by decide) (cc := 173) (na := 1) (kd := 13) (q4 := 0) (z := 10) (rest := []) (by decide +kernel) (by decide +kernel)  rfl (show (1 : Nat) ≤ 1 by decide) rfl cs0 (by decide +kernel) (cav jr_ref ca0)
theorem b182_29 (d : Nat) (μ : jM) (u0 : Value) : jR d 182 29 [u0] [] μ = jR d 182 164 [u0] [] μ :=
  l_goto (show gPG 182 29 = some (.goto 135) by decide +kernel) (t := 164) (by decide +kernel)
theorem b182_38 (d : Nat) (μ : jM) (a : Nat) (s0 : Int32) : jR (d + 1) 182 38 [.ref a] [.int s0] μ = (if s0 = 0 then (if jrecv μ 13 (.ref a) = true then (jC d 179 [.ref a, .int 40] μ).bind fun p1 => jR (d + 1) 182 74 [.ref a] (p1.1.toList ++ []) p1.2 else none) else (if jrecv μ 13 (.ref a) = true then (jC d 184 [.ref a] μ).bind fun p2 => jR (d + 1) 182 45 [.ref a] (p2.1.toList ++ []) p2.2 else none)) :=
  (l_cmp0 (show gPG 182 38 = some (.ifCond .eq 30) by decide +kernel) (t := 68) (by decide +kernel)).trans <| jm_eq.trans <| ite_cg (
  (l_aload_n (show gPG 182 68 = some (.aload_n 0) by decide +kernel) rfl jr_ref).trans <|
  (l_bipush (show gPG 182 69 = some (.bipush 40) by decide +kernel) (c := 40) (by decide +kernel)).trans <|
  l_callV (u := 1) (v := .ref a) (as := [.int 40]) (show gPG 182 71 = some (jinvI 1 238) by decide +kernel) (by decide) (cc := 179) (na := 2) (kd := 13) (q4 := 0) (z := 10) (rest := []) (by decide +kernel) (by decide +kernel)  rfl (show (2 : Nat) ≤ 2 by decide) rfl cs0 (by decide +kernel) (cai (cav jr_ref ca0))) (
  (l_aload_n (show gPG 182 41 = some (.aload_n 0) by decide +kernel) rfl jr_ref).trans <|
  l_callV (u := 1) (v := .ref a) (as := []) (show gPG 182 42 = some (jinvI 1 260) by decide +kernel) (by decide) (cc := 184) (na := 1) (kd := 13) (q4 := 0) (z := 10) (rest := []) (by decide +kernel) (by decide +kernel)  rfl (show (1 : Nat) ≤ 1 by decide) rfl cs0 (by decide +kernel) (cav jr_ref ca0))
theorem b182_45 (d : Nat) (μ : jM) (a : Nat) : jR (d + 1) 182 45 [.ref a] [] μ = (if jrecv μ 13 (.ref a) = true then (jC d 186 [.ref a, .int 45] μ).bind fun p1 => jR (d + 1) 182 51 [.ref a] (p1.1.toList ++ []) p1.2 else none) :=
  (l_aload_n (show gPG 182 45 = some (.aload_n 0) by decide +kernel) rfl jr_ref).trans <|
  (l_bipush (show gPG 182 46 = some (.bipush 45) by decide +kernel) (c := 45) (by decide +kernel)).trans <|
  l_callV (u := 1) (v := .ref a) (as := [.int 45]) (show gPG 182 48 = some (jinvI 1 263) by decide +kernel) (by decide) (cc := 186) (na := 2) (kd := 13) (q4 := 0) (z := 10) (rest := []) (by decide +kernel) (by decide +kernel)  rfl (show (2 : Nat) ≤ 2 by decide) rfl cs0 (by decide +kernel) (cai (cav jr_ref ca0))
theorem b182_51 (d : Nat) (μ : jM) (a : Nat) : jR (d + 1) 182 51 [.ref a] [] μ = (if jrecv μ 13 (.ref a) = true then (jC d 182 [.ref a] μ).bind fun p1 => jR (d + 1) 182 55 [.ref a] (p1.1.toList ++ []) p1.2 else none) :=
  (l_aload_n (show gPG 182 51 = some (.aload_n 0) by decide +kernel) rfl jr_ref).trans <|
  l_callV (u := 1) (v := .ref a) (as := []) (show gPG 182 52 = some (jinvI 1 267) by decide +kernel) (by decide) (cc := 182) (na := 1) (kd := 13) (q4 := 0) (z := 10) (rest := []) (by decide +kernel) (by decide +kernel)  rfl (show (1 : Nat) ≤ 1 by decide) rfl cs0 (by decide +kernel) (cav jr_ref ca0)
theorem b182_55 (d : Nat) (μ : jM) (a : Nat) : jR d 182 55 [.ref a] [] μ = (jgI μ 13 21 (.ref a)).bind fun x1 => (jpI μ 13 21 0 (.ref a) (x1 - 1)).bind fun m2 => jR d 182 164 [.ref a] [] m2 :=
  (l_aload_n (show gPG 182 55 = some (.aload_n 0) by decide +kernel) rfl jr_ref).trans <|
  (l_dup (show gPG 182 56 = some (.dup) by decide +kernel) (jr_cat1 jr_ref)).trans <|
  (l_gI (show gPG 182 57 = some (.getfield 257) by decide +kernel) (kd := 13) (sl := 21) (tc := 0) (fin := 0) (z := 0) (by decide +kernel) (by decide +kernel) (by decide +kernel)).trans <| bd_cg fun x1 hx1 =>
  (l_iconst (show gPG 182 60 = some (.iconst 1) by decide +kernel) (c := 1) (by decide +kernel)).trans <|
  (l_isub (show gPG 182 61 = some (.isub) by decide +kernel) ).trans <|
  (l_pI (show gPG 182 62 = some (.putfield 257) by decide +kernel) (kd := 13) (sl := 21) (tc := 0) (fin := 0) (z := 0) (by decide +kernel) (by decide +kernel) (by decide +kernel)).trans <| bd_cg fun m2 hm2 =>
  l_goto (show gPG 182 65 = some (.goto 99) by decide +kernel) (t := 164) (by decide +kernel)
theorem b182_74 (d : Nat) (μ : jM) (a : Nat) (s0 : Int32) : jR (d + 1) 182 74 [.ref a] [.int s0] μ = (if s0 = 0 then (jgI μ 13 19 (.ref a)).bind fun x1 => (if x1 = 3 then (jgI μ 13 20 (.ref a)).bind fun x3 => (if jrecv μ 13 (.ref a) = true then (jC d 183 [.ref a, .int 2, .int x3] μ).bind fun p4 => jR (d + 1) 182 127 [.ref a] (p4.1.toList ++ []) p4.2 else none) else (if jrecv μ 13 (.ref a) = true then (jC d 187 [.ref a] μ).bind fun p2 => jR (d + 1) 182 164 [.ref a] (p2.1.toList ++ []) p2.2 else none)) else (if jrecv μ 13 (.ref a) = true then (jC d 184 [.ref a] μ).bind fun p5 => jR (d + 1) 182 81 [.ref a] (p5.1.toList ++ []) p5.2 else none)) :=
  (l_cmp0 (show gPG 182 74 = some (.ifCond .eq 36) by decide +kernel) (t := 110) (by decide +kernel)).trans <| jm_eq.trans <| ite_cg (
  (l_aload_n (show gPG 182 110 = some (.aload_n 0) by decide +kernel) rfl jr_ref).trans <|
  (l_gI (show gPG 182 111 = some (.getfield 207) by decide +kernel) (kd := 13) (sl := 19) (tc := 0) (fin := 0) (z := 0) (by decide +kernel) (by decide +kernel) (by decide +kernel)).trans <| bd_cg fun x1 hx1 =>
  (l_iconst (show gPG 182 114 = some (.iconst 3) by decide +kernel) (c := 3) (by decide +kernel)).trans <|
  (l_cmp (show gPG 182 115 = some (.if_icmp .ne 45) by decide +kernel) (t := 160) (by decide +kernel)).trans <| jm_ne.trans <| ite_cg (
  (l_aload_n (show gPG 182 118 = some (.aload_n 0) by decide +kernel) rfl jr_ref).trans <|
  (l_iconst (show gPG 182 119 = some (.iconst 2) by decide +kernel) (c := 2) (by decide +kernel)).trans <|
  (l_aload_n (show gPG 182 120 = some (.aload_n 0) by decide +kernel) rfl jr_ref).trans <|
  (l_gI (show gPG 182 121 = some (.getfield 218) by decide +kernel) (kd := 13) (sl := 20) (tc := 0) (fin := 0) (z := 0) (by decide +kernel) (by decide +kernel) (by decide +kernel)).trans <| bd_cg fun x3 hx3 =>
  l_callV (u := 1) (v := .ref a) (as := [.int 2, .int x3]) (show gPG 182 124 = some (jinvI 1 245) by decide +kernel) (by decide) (cc := 183) (na := 3) (kd := 13) (q4 := 0) (z := 10) (rest := []) (by decide +kernel) (by decide +kernel)  rfl (show (3 : Nat) ≤ 3 by decide) rfl cs0 (by decide +kernel) (cai (cai (cav jr_ref ca0)))) (
  (l_aload_n (show gPG 182 160 = some (.aload_n 0) by decide +kernel) rfl jr_ref).trans <|
  l_callV (u := 1) (v := .ref a) (as := []) (show gPG 182 161 = some (jinvI 1 273) by decide +kernel) (by decide) (cc := 187) (na := 1) (kd := 13) (q4 := 0) (z := 10) (rest := []) (by decide +kernel) (by decide +kernel)  rfl (show (1 : Nat) ≤ 1 by decide) rfl cs0 (by decide +kernel) (cav jr_ref ca0))) (
  (l_aload_n (show gPG 182 77 = some (.aload_n 0) by decide +kernel) rfl jr_ref).trans <|
  l_callV (u := 1) (v := .ref a) (as := []) (show gPG 182 78 = some (jinvI 1 260) by decide +kernel) (by decide) (cc := 184) (na := 1) (kd := 13) (q4 := 0) (z := 10) (rest := []) (by decide +kernel) (by decide +kernel)  rfl (show (1 : Nat) ≤ 1 by decide) rfl cs0 (by decide +kernel) (cav jr_ref ca0))
theorem b182_81 (d : Nat) (μ : jM) (a : Nat) : jR (d + 1) 182 81 [.ref a] [] μ = (if jrecv μ 13 (.ref a) = true then (jC d 186 [.ref a, .int 40] μ).bind fun p1 => jR (d + 1) 182 87 [.ref a] (p1.1.toList ++ []) p1.2 else none) :=
  (l_aload_n (show gPG 182 81 = some (.aload_n 0) by decide +kernel) rfl jr_ref).trans <|
  (l_bipush (show gPG 182 82 = some (.bipush 40) by decide +kernel) (c := 40) (by decide +kernel)).trans <|
  l_callV (u := 1) (v := .ref a) (as := [.int 40]) (show gPG 182 84 = some (jinvI 1 263) by decide +kernel) (by decide) (cc := 186) (na := 2) (kd := 13) (q4 := 0) (z := 10) (rest := []) (by decide +kernel) (by decide +kernel)  rfl (show (2 : Nat) ≤ 2 by decide) rfl cs0 (by decide +kernel) (cai (cav jr_ref ca0))
theorem b182_87 (d : Nat) (μ : jM) (a : Nat) : jR (d + 1) 182 87 [.ref a] [] μ = (if jrecv μ 13 (.ref a) = true then (jC d 180 [.ref a] μ).bind fun p1 => jR (d + 1) 182 91 [.ref a] (p1.1.toList ++ []) p1.2 else none) :=
  (l_aload_n (show gPG 182 87 = some (.aload_n 0) by decide +kernel) rfl jr_ref).trans <|
  l_callV (u := 1) (v := .ref a) (as := []) (show gPG 182 88 = some (jinvI 1 270) by decide +kernel) (by decide) (cc := 180) (na := 1) (kd := 13) (q4 := 0) (z := 10) (rest := []) (by decide +kernel) (by decide +kernel)  rfl (show (1 : Nat) ≤ 1 by decide) rfl cs0 (by decide +kernel) (cav jr_ref ca0)
theorem b182_91 (d : Nat) (μ : jM) (a : Nat) : jR (d + 1) 182 91 [.ref a] [] μ = (jgI μ 13 21 (.ref a)).bind fun x1 => (jpI μ 13 21 0 (.ref a) (x1 - 1)).bind fun m2 => (if jrecv m2 13 (.ref a) = true then (jC d 186 [.ref a, .int 41] m2).bind fun p3 => jR (d + 1) 182 107 [.ref a] (p3.1.toList ++ []) p3.2 else none) :=
  (l_aload_n (show gPG 182 91 = some (.aload_n 0) by decide +kernel) rfl jr_ref).trans <|
  (l_dup (show gPG 182 92 = some (.dup) by decide +kernel) (jr_cat1 jr_ref)).trans <|
  (l_gI (show gPG 182 93 = some (.getfield 257) by decide +kernel) (kd := 13) (sl := 21) (tc := 0) (fin := 0) (z := 0) (by decide +kernel) (by decide +kernel) (by decide +kernel)).trans <| bd_cg fun x1 hx1 =>
  (l_iconst (show gPG 182 96 = some (.iconst 1) by decide +kernel) (c := 1) (by decide +kernel)).trans <|
  (l_isub (show gPG 182 97 = some (.isub) by decide +kernel) ).trans <|
  (l_pI (show gPG 182 98 = some (.putfield 257) by decide +kernel) (kd := 13) (sl := 21) (tc := 0) (fin := 0) (z := 0) (by decide +kernel) (by decide +kernel) (by decide +kernel)).trans <| bd_cg fun m2 hm2 =>
  (l_aload_n (show gPG 182 101 = some (.aload_n 0) by decide +kernel) rfl jr_ref).trans <|
  (l_bipush (show gPG 182 102 = some (.bipush 41) by decide +kernel) (c := 41) (by decide +kernel)).trans <|
  l_callV (u := 1) (v := .ref a) (as := [.int 41]) (show gPG 182 104 = some (jinvI 1 263) by decide +kernel) (by decide) (cc := 186) (na := 2) (kd := 13) (q4 := 0) (z := 10) (rest := []) (by decide +kernel) (by decide +kernel)  rfl (show (2 : Nat) ≤ 2 by decide) rfl cs0 (by decide +kernel) (cai (cav jr_ref ca0))
theorem b182_107 (d : Nat) (μ : jM) (u0 : Value) : jR d 182 107 [u0] [] μ = jR d 182 164 [u0] [] μ :=
  l_goto (show gPG 182 107 = some (.goto 57) by decide +kernel) (t := 164) (by decide +kernel)
theorem b182_127 (d : Nat) (μ : jM) (a : Nat) : jR (d + 1) 182 127 [.ref a] [] μ = (if jrecv μ 13 (.ref a) = true then (jC d 173 [.ref a] μ).bind fun p1 => jR (d + 1) 182 131 [.ref a] (p1.1.toList ++ []) p1.2 else none) :=
  (l_aload_n (show gPG 182 127 = some (.aload_n 0) by decide +kernel) rfl jr_ref).trans <|
  l_callV (u := 1) (v := .ref a) (as := []) (show gPG 182 128 = some (jinvI 1 247) by decide +kernel) (by decide) (cc := 173) (na := 1) (kd := 13) (q4 := 0) (z := 10) (rest := []) (by decide +kernel) (by decide +kernel)  rfl (show (1 : Nat) ≤ 1 by decide) rfl cs0 (by decide +kernel) (cav jr_ref ca0)
theorem b182_131 (d : Nat) (μ : jM) (a : Nat) : jR (d + 1) 182 131 [.ref a] [] μ = (if jrecv μ 13 (.ref a) = true then (jC d 186 [.ref a, .int 40] μ).bind fun p1 => jR (d + 1) 182 137 [.ref a] (p1.1.toList ++ []) p1.2 else none) :=
  (l_aload_n (show gPG 182 131 = some (.aload_n 0) by decide +kernel) rfl jr_ref).trans <|
  (l_bipush (show gPG 182 132 = some (.bipush 40) by decide +kernel) (c := 40) (by decide +kernel)).trans <|
  l_callV (u := 1) (v := .ref a) (as := [.int 40]) (show gPG 182 134 = some (jinvI 1 263) by decide +kernel) (by decide) (cc := 186) (na := 2) (kd := 13) (q4 := 0) (z := 10) (rest := []) (by decide +kernel) (by decide +kernel)  rfl (show (2 : Nat) ≤ 2 by decide) rfl cs0 (by decide +kernel) (cai (cav jr_ref ca0))
theorem b182_137 (d : Nat) (μ : jM) (a : Nat) : jR (d + 1) 182 137 [.ref a] [] μ = (if jrecv μ 13 (.ref a) = true then (jC d 187 [.ref a] μ).bind fun p1 => jR (d + 1) 182 141 [.ref a] (p1.1.toList ++ []) p1.2 else none) :=
  (l_aload_n (show gPG 182 137 = some (.aload_n 0) by decide +kernel) rfl jr_ref).trans <|
  l_callV (u := 1) (v := .ref a) (as := []) (show gPG 182 138 = some (jinvI 1 273) by decide +kernel) (by decide) (cc := 187) (na := 1) (kd := 13) (q4 := 0) (z := 10) (rest := []) (by decide +kernel) (by decide +kernel)  rfl (show (1 : Nat) ≤ 1 by decide) rfl cs0 (by decide +kernel) (cav jr_ref ca0)
theorem b182_141 (d : Nat) (μ : jM) (a : Nat) : jR (d + 1) 182 141 [.ref a] [] μ = (if jrecv μ 13 (.ref a) = true then (jC d 186 [.ref a, .int 58] μ).bind fun p1 => jR (d + 1) 182 147 [.ref a] (p1.1.toList ++ []) p1.2 else none) :=
  (l_aload_n (show gPG 182 141 = some (.aload_n 0) by decide +kernel) rfl jr_ref).trans <|
  (l_bipush (show gPG 182 142 = some (.bipush 58) by decide +kernel) (c := 58) (by decide +kernel)).trans <|
  l_callV (u := 1) (v := .ref a) (as := [.int 58]) (show gPG 182 144 = some (jinvI 1 263) by decide +kernel) (by decide) (cc := 186) (na := 2) (kd := 13) (q4 := 0) (z := 10) (rest := []) (by decide +kernel) (by decide +kernel)  rfl (show (2 : Nat) ≤ 2 by decide) rfl cs0 (by decide +kernel) (cai (cav jr_ref ca0))
theorem b182_147 (d : Nat) (μ : jM) (a : Nat) : jR (d + 1) 182 147 [.ref a] [] μ = (if jrecv μ 13 (.ref a) = true then (jC d 187 [.ref a] μ).bind fun p1 => jR (d + 1) 182 151 [.ref a] (p1.1.toList ++ []) p1.2 else none) :=
  (l_aload_n (show gPG 182 147 = some (.aload_n 0) by decide +kernel) rfl jr_ref).trans <|
  l_callV (u := 1) (v := .ref a) (as := []) (show gPG 182 148 = some (jinvI 1 273) by decide +kernel) (by decide) (cc := 187) (na := 1) (kd := 13) (q4 := 0) (z := 10) (rest := []) (by decide +kernel) (by decide +kernel)  rfl (show (1 : Nat) ≤ 1 by decide) rfl cs0 (by decide +kernel) (cav jr_ref ca0)
theorem b182_151 (d : Nat) (μ : jM) (a : Nat) : jR (d + 1) 182 151 [.ref a] [] μ = (if jrecv μ 13 (.ref a) = true then (jC d 186 [.ref a, .int 41] μ).bind fun p1 => jR (d + 1) 182 157 [.ref a] (p1.1.toList ++ []) p1.2 else none) :=
  (l_aload_n (show gPG 182 151 = some (.aload_n 0) by decide +kernel) rfl jr_ref).trans <|
  (l_bipush (show gPG 182 152 = some (.bipush 41) by decide +kernel) (c := 41) (by decide +kernel)).trans <|
  l_callV (u := 1) (v := .ref a) (as := [.int 41]) (show gPG 182 154 = some (jinvI 1 263) by decide +kernel) (by decide) (cc := 186) (na := 2) (kd := 13) (q4 := 0) (z := 10) (rest := []) (by decide +kernel) (by decide +kernel)  rfl (show (2 : Nat) ≤ 2 by decide) rfl cs0 (by decide +kernel) (cai (cav jr_ref ca0))
theorem b182_157 (d : Nat) (μ : jM) (u0 : Value) : jR d 182 157 [u0] [] μ = jR d 182 164 [u0] [] μ :=
  l_goto (show gPG 182 157 = some (.goto 7) by decide +kernel) (t := 164) (by decide +kernel)
theorem b182_164 (d : Nat) (μ : jM) (u0 : Value) : jR d 182 164 [u0] [] μ = some (none, μ) :=
  l_ret (show gPG 182 164 = some (.return_) by decide +kernel) (by decide +kernel)
-- Ref.notes
theorem b183_0 (d : Nat) (μ : jM) (a : Nat) (i1 : Int32) (i2 : Int32) : jR d 183 0 [.ref a, .int i1, .int i2] [] μ = (jgI μ 13 22 (.ref a)).bind fun x1 => (if x1 = 0 then (jgR μ 13 25 (.ref a)).bind fun w2 => (jgI μ 13 23 (.ref a)).bind fun x3 => (jsI μ w2 x3 i1).bind fun m4 => (jgR m4 13 25 (.ref a)).bind fun w5 => (jgI m4 13 23 (.ref a)).bind fun x6 => (jsI m4 w5 (x6 + 1) i2).bind fun m7 => (jgI m7 13 23 (.ref a)).bind fun x8 => (jpI m7 13 23 0 (.ref a) (x8 + 2)).bind fun m9 => some (none, m9) else some (none, μ)) :=
  (l_aload_n (show gPG 183 0 = some (.aload_n 0) by decide +kernel) rfl jr_ref).trans <|
  (l_gI (show gPG 183 1 = some (.getfield 221) by decide +kernel) (kd := 13) (sl := 22) (tc := 2) (fin := 0) (z := 0) (by decide +kernel) (by decide +kernel) (by decide +kernel)).trans <| bd_cg fun x1 hx1 =>
  (l_cmp0 (show gPG 183 4 = some (.ifCond .eq 4) by decide +kernel) (t := 8) (by decide +kernel)).trans <| jm_eq.trans <| ite_cg (
  (l_aload_n (show gPG 183 8 = some (.aload_n 0) by decide +kernel) rfl jr_ref).trans <|
  (l_gR (show gPG 183 9 = some (.getfield 63) by decide +kernel) (kd := 13) (sl := 25) (tc := 1) (fin := 1) (z := 0) (by decide +kernel) (by decide +kernel) (by decide +kernel)).trans <| bd_cg fun w2 hw2 =>
  (l_aload_n (show gPG 183 12 = some (.aload_n 0) by decide +kernel) rfl jr_ref).trans <|
  (l_gI (show gPG 183 13 = some (.getfield 235) by decide +kernel) (kd := 13) (sl := 23) (tc := 0) (fin := 0) (z := 0) (by decide +kernel) (by decide +kernel) (by decide +kernel)).trans <| bd_cg fun x3 hx3 =>
  (l_iload_n (show gPG 183 16 = some (.iload_n 1) by decide +kernel) rfl).trans <|
  (l_iast (show gPG 183 17 = some (.iastore) by decide +kernel) ).trans <| bd_cg fun m4 hm4 =>
  (l_aload_n (show gPG 183 18 = some (.aload_n 0) by decide +kernel) rfl jr_ref).trans <|
  (l_gR (show gPG 183 19 = some (.getfield 63) by decide +kernel) (kd := 13) (sl := 25) (tc := 1) (fin := 1) (z := 0) (by decide +kernel) (by decide +kernel) (by decide +kernel)).trans <| bd_cg fun w5 hw5 =>
  (l_aload_n (show gPG 183 22 = some (.aload_n 0) by decide +kernel) rfl jr_ref).trans <|
  (l_gI (show gPG 183 23 = some (.getfield 235) by decide +kernel) (kd := 13) (sl := 23) (tc := 0) (fin := 0) (z := 0) (by decide +kernel) (by decide +kernel) (by decide +kernel)).trans <| bd_cg fun x6 hx6 =>
  (l_iconst (show gPG 183 26 = some (.iconst 1) by decide +kernel) (c := 1) (by decide +kernel)).trans <|
  (l_iadd (show gPG 183 27 = some (.iadd) by decide +kernel) ).trans <|
  (l_iload_n (show gPG 183 28 = some (.iload_n 2) by decide +kernel) rfl).trans <|
  (l_iast (show gPG 183 29 = some (.iastore) by decide +kernel) ).trans <| bd_cg fun m7 hm7 =>
  (l_aload_n (show gPG 183 30 = some (.aload_n 0) by decide +kernel) rfl jr_ref).trans <|
  (l_dup (show gPG 183 31 = some (.dup) by decide +kernel) (jr_cat1 jr_ref)).trans <|
  (l_gI (show gPG 183 32 = some (.getfield 235) by decide +kernel) (kd := 13) (sl := 23) (tc := 0) (fin := 0) (z := 0) (by decide +kernel) (by decide +kernel) (by decide +kernel)).trans <| bd_cg fun x8 hx8 =>
  (l_iconst (show gPG 183 35 = some (.iconst 2) by decide +kernel) (c := 2) (by decide +kernel)).trans <|
  (l_iadd (show gPG 183 36 = some (.iadd) by decide +kernel) ).trans <|
  (l_pI (show gPG 183 37 = some (.putfield 235) by decide +kernel) (kd := 13) (sl := 23) (tc := 0) (fin := 0) (z := 0) (by decide +kernel) (by decide +kernel) (by decide +kernel)).trans <| bd_cg fun m9 hm9 =>
  l_ret (show gPG 183 40 = some (.return_) by decide +kernel) (by decide +kernel)) (
  l_ret (show gPG 183 7 = some (.return_) by decide +kernel) (by decide +kernel))
-- Ref.opens/
theorem b184_0 (d : Nat) (μ : jM) (a : Nat) : jR d 184 0 [.ref a] [] μ = (jgI μ 13 21 (.ref a)).bind fun x1 => (if x1 < 4 then jR d 184 14 [.ref a] [.int 1, .ref a] μ else jR d 184 14 [.ref a] [.int 0, .ref a] μ) :=
  (l_aload_n (show gPG 184 0 = some (.aload_n 0) by decide +kernel) rfl jr_ref).trans <|
  (l_aload_n (show gPG 184 1 = some (.aload_n 0) by decide +kernel) rfl jr_ref).trans <|
  (l_gI (show gPG 184 2 = some (.getfield 257) by decide +kernel) (kd := 13) (sl := 21) (tc := 0) (fin := 0) (z := 0) (by decide +kernel) (by decide +kernel) (by decide +kernel)).trans <| bd_cg fun x1 hx1 =>
  (l_iconst (show gPG 184 5 = some (.iconst 4) by decide +kernel) (c := 4) (by decide +kernel)).trans <|
  (l_cmp (show gPG 184 6 = some (.if_icmp .ge 7) by decide +kernel) (t := 13) (by decide +kernel)).trans <| jm_ge.trans <| ite_cg (
  (l_iconst (show gPG 184 9 = some (.iconst 1) by decide +kernel) (c := 1) (by decide +kernel)).trans <|
  l_goto (show gPG 184 10 = some (.goto 4) by decide +kernel) (t := 14) (by decide +kernel)) (
  l_iconst (show gPG 184 13 = some (.iconst 0) by decide +kernel) (c := 0) (by decide +kernel))
theorem b184_14 (d : Nat) (μ : jM) (a : Nat) (s0 : Value) (s1 : Int32) (hs0 : jisref s0 = true) : jR (d + 1) 184 14 [.ref a] [.int s1, s0] μ = (if jrecv μ 13 s0 = true then (jC d 185 [s0, .int s1] μ).bind fun p1 => jR (d + 1) 184 17 [.ref a] (p1.1.toList ++ []) p1.2 else none) :=
  l_callV (u := 1) (v := s0) (as := [.int s1]) (show gPG 184 14 = some (jinvI 1 241) by decide +kernel) (by decide) (cc := 185) (na := 2) (kd := 13) (q4 := 0) (z := 10) (rest := []) (by decide +kernel) (by decide +kernel)  rfl (show (2 : Nat) ≤ 2 by decide) rfl cs0 (by decide +kernel) (cai (cav hs0 ca0))
theorem b184_17 (d : Nat) (μ : jM) (a : Nat) : jR d 184 17 [.ref a] [] μ = (jgI μ 13 21 (.ref a)).bind fun x1 => (jpI μ 13 21 0 (.ref a) (x1 + 1)).bind fun m2 => some (none, m2) :=
  (l_aload_n (show gPG 184 17 = some (.aload_n 0) by decide +kernel) rfl jr_ref).trans <|
  (l_dup (show gPG 184 18 = some (.dup) by decide +kernel) (jr_cat1 jr_ref)).trans <|
  (l_gI (show gPG 184 19 = some (.getfield 257) by decide +kernel) (kd := 13) (sl := 21) (tc := 0) (fin := 0) (z := 0) (by decide +kernel) (by decide +kernel) (by decide +kernel)).trans <| bd_cg fun x1 hx1 =>
  (l_iconst (show gPG 184 22 = some (.iconst 1) by decide +kernel) (c := 1) (by decide +kernel)).trans <|
  (l_iadd (show gPG 184 23 = some (.iadd) by decide +kernel) ).trans <|
  (l_pI (show gPG 184 24 = some (.putfield 257) by decide +kernel) (kd := 13) (sl := 21) (tc := 0) (fin := 0) (z := 0) (by decide +kernel) (by decide +kernel) (by decide +kernel)).trans <| bd_cg fun m2 hm2 =>
  l_ret (show gPG 184 27 = some (.return_) by decide +kernel) (by decide +kernel)
-- Ref.need
theorem b185_0 (d : Nat) (μ : jM) (a : Nat) (i1 : Int32) : jR d 185 0 [.ref a, .int i1] [] μ = (if i1 = 0 then (jpI μ 13 22 2 (.ref a) 1).bind fun m1 => jR d 185 9 [.ref a, .int i1] [] m1 else jR d 185 9 [.ref a, .int i1] [] μ) :=
  (l_iload_n (show gPG 185 0 = some (.iload_n 1) by decide +kernel) rfl).trans <|
  (l_cmp0 (show gPG 185 1 = some (.ifCond .ne 8) by decide +kernel) (t := 9) (by decide +kernel)).trans <| jm_ne.trans <| ite_cg (
  (l_aload_n (show gPG 185 4 = some (.aload_n 0) by decide +kernel) rfl jr_ref).trans <|
  (l_iconst (show gPG 185 5 = some (.iconst 1) by decide +kernel) (c := 1) (by decide +kernel)).trans <|
  (l_pI (show gPG 185 6 = some (.putfield 221) by decide +kernel) (kd := 13) (sl := 22) (tc := 2) (fin := 0) (z := 0) (by decide +kernel) (by decide +kernel) (by decide +kernel)).trans <| bd_cg fun m1 hm1 =>
  rfl) (
  rfl)
theorem b185_9 (d : Nat) (μ : jM) (u0 : Value) (u1 : Value) : jR d 185 9 [u0, u1] [] μ = some (none, μ) :=
  l_ret (show gPG 185 9 = some (.return_) by decide +kernel) (by decide +kernel)
-- Ref.sign
theorem b186_0 (d : Nat) (μ : jM) (a : Nat) (i1 : Int32) : jR (d + 1) 186 0 [.ref a, .int i1] [] μ = (if jrecv μ 13 (.ref a) = true then (jC d 179 [.ref a, .int i1] μ).bind fun p1 => jR (d + 1) 186 6 [.ref a, .int i1] (p1.1.toList ++ [.ref a]) p1.2 else none) :=
  (l_aload_n (show gPG 186 0 = some (.aload_n 0) by decide +kernel) rfl jr_ref).trans <|
  (l_aload_n (show gPG 186 1 = some (.aload_n 0) by decide +kernel) rfl jr_ref).trans <|
  (l_iload_n (show gPG 186 2 = some (.iload_n 1) by decide +kernel) rfl).trans <|
  l_callV (u := 1) (v := .ref a) (as := [.int i1]) (show gPG 186 3 = some (jinvI 1 238) by decide +kernel) (by decide) (cc := 179) (na := 2) (kd := 13) (q4 := 0) (z := 10) (rest := [.ref a]) (by decide +kernel) (by decide +kernel)  rfl (show (2 : Nat) ≤ 3 by decide) rfl (csv jr_ref cs0) (by decide +kernel) (cai (cav jr_ref ca0))
theorem b186_6 (d : Nat) (μ : jM) (a : Nat) (i1 : Int32) (s0 : Value) (s1 : Int32) (hs0 : jisref s0 = true) : jR (d + 1) 186 6 [.ref a, .int i1] [.int s1, s0] μ = (if jrecv μ 13 s0 = true then (jC d 185 [s0, .int s1] μ).bind fun p1 => jR (d + 1) 186 9 [.ref a, .int i1] (p1.1.toList ++ []) p1.2 else none) :=
  l_callV (u := 1) (v := s0) (as := [.int s1]) (show gPG 186 6 = some (jinvI 1 241) by decide +kernel) (by decide) (cc := 185) (na := 2) (kd := 13) (q4 := 0) (z := 10) (rest := []) (by decide +kernel) (by decide +kernel)  rfl (show (2 : Nat) ≤ 2 by decide) rfl cs0 (by decide +kernel) (cai (cav hs0 ca0))
theorem b186_9 (d : Nat) (μ : jM) (a : Nat) (i1 : Int32) : jR (d + 1) 186 9 [.ref a, .int i1] [] μ = (if jrecv μ 13 (.ref a) = true then (jC d 183 [.ref a, .int 1, .int i1] μ).bind fun p1 => jR (d + 1) 186 15 [.ref a, .int i1] (p1.1.toList ++ []) p1.2 else none) :=
  (l_aload_n (show gPG 186 9 = some (.aload_n 0) by decide +kernel) rfl jr_ref).trans <|
  (l_iconst (show gPG 186 10 = some (.iconst 1) by decide +kernel) (c := 1) (by decide +kernel)).trans <|
  (l_iload_n (show gPG 186 11 = some (.iload_n 1) by decide +kernel) rfl).trans <|
  l_callV (u := 1) (v := .ref a) (as := [.int 1, .int i1]) (show gPG 186 12 = some (jinvI 1 245) by decide +kernel) (by decide) (cc := 183) (na := 3) (kd := 13) (q4 := 0) (z := 10) (rest := []) (by decide +kernel) (by decide +kernel)  rfl (show (3 : Nat) ≤ 3 by decide) rfl cs0 (by decide +kernel) (cai (cai (cav jr_ref ca0)))
theorem b186_15 (d : Nat) (μ : jM) (a : Nat) (u1 : Value) : jR (d + 1) 186 15 [.ref a, u1] [] μ = (if jrecv μ 13 (.ref a) = true then (jC d 173 [.ref a] μ).bind fun p1 => jR (d + 1) 186 19 [.ref a, u1] (p1.1.toList ++ []) p1.2 else none) :=
  (l_aload_n (show gPG 186 15 = some (.aload_n 0) by decide +kernel) rfl jr_ref).trans <|
  l_callV (u := 1) (v := .ref a) (as := []) (show gPG 186 16 = some (jinvI 1 247) by decide +kernel) (by decide) (cc := 173) (na := 1) (kd := 13) (q4 := 0) (z := 10) (rest := []) (by decide +kernel) (by decide +kernel)  rfl (show (1 : Nat) ≤ 1 by decide) rfl cs0 (by decide +kernel) (cav jr_ref ca0)
theorem b186_19 (d : Nat) (μ : jM) (u0 : Value) (u1 : Value) : jR d 186 19 [u0, u1] [] μ = some (none, μ) :=
  l_ret (show gPG 186 19 = some (.return_) by decide +kernel) (by decide +kernel)
-- Ref.ref
theorem b187_0 (d : Nat) (μ : jM) (a : Nat) : jR (d + 1) 187 0 [.ref a, .retAddr 0, .retAddr 0] [] μ = (if jrecv μ 13 (.ref a) = true then (jC d 179 [.ref a, .int 35] μ).bind fun p1 => jR (d + 1) 187 6 [.ref a, .retAddr 0, .retAddr 0] (p1.1.toList ++ []) p1.2 else none) :=
  (l_aload_n (show gPG 187 0 = some (.aload_n 0) by decide +kernel) rfl jr_ref).trans <|
  (l_bipush (show gPG 187 1 = some (.bipush 35) by decide +kernel) (c := 35) (by decide +kernel)).trans <|
  l_callV (u := 1) (v := .ref a) (as := [.int 35]) (show gPG 187 3 = some (jinvI 1 238) by decide +kernel) (by decide) (cc := 179) (na := 2) (kd := 13) (q4 := 0) (z := 10) (rest := []) (by decide +kernel) (by decide +kernel)  rfl (show (2 : Nat) ≤ 2 by decide) rfl cs0 (by decide +kernel) (cai (cav jr_ref ca0))
theorem b187_6 (d : Nat) (μ : jM) (a : Nat) (u1 : Value) (u2 : Value) (s0 : Int32) : jR (d + 1) 187 6 [.ref a, u1, u2] [.int s0] μ = (if s0 = 0 then (if jrecv μ 13 (.ref a) = true then (jC d 179 [.ref a, .int 36] μ).bind fun p1 => jR (d + 1) 187 26 [.ref a, u1, u2] (p1.1.toList ++ []) p1.2 else none) else (if jrecv μ 13 (.ref a) = true then (jC d 183 [.ref a, .int 3, .int 0] μ).bind fun p2 => jR (d + 1) 187 15 [.ref a, u1, u2] (p2.1.toList ++ []) p2.2 else none)) :=
  (l_cmp0 (show gPG 187 6 = some (.ifCond .eq 14) by decide +kernel) (t := 20) (by decide +kernel)).trans <| jm_eq.trans <| ite_cg (
  (l_aload_n (show gPG 187 20 = some (.aload_n 0) by decide +kernel) rfl jr_ref).trans <|
  (l_bipush (show gPG 187 21 = some (.bipush 36) by decide +kernel) (c := 36) (by decide +kernel)).trans <|
  l_callV (u := 1) (v := .ref a) (as := [.int 36]) (show gPG 187 23 = some (jinvI 1 238) by decide +kernel) (by decide) (cc := 179) (na := 2) (kd := 13) (q4 := 0) (z := 10) (rest := []) (by decide +kernel) (by decide +kernel)  rfl (show (2 : Nat) ≤ 2 by decide) rfl cs0 (by decide +kernel) (cai (cav jr_ref ca0))) (
  (l_aload_n (show gPG 187 9 = some (.aload_n 0) by decide +kernel) rfl jr_ref).trans <|
  (l_iconst (show gPG 187 10 = some (.iconst 3) by decide +kernel) (c := 3) (by decide +kernel)).trans <|
  (l_iconst (show gPG 187 11 = some (.iconst 0) by decide +kernel) (c := 0) (by decide +kernel)).trans <|
  l_callV (u := 1) (v := .ref a) (as := [.int 3, .int 0]) (show gPG 187 12 = some (jinvI 1 245) by decide +kernel) (by decide) (cc := 183) (na := 3) (kd := 13) (q4 := 0) (z := 10) (rest := []) (by decide +kernel) (by decide +kernel)  rfl (show (3 : Nat) ≤ 3 by decide) rfl cs0 (by decide +kernel) (cai (cai (cav jr_ref ca0))))
theorem b187_15 (d : Nat) (μ : jM) (a : Nat) (u1 : Value) (u2 : Value) : jR (d + 1) 187 15 [.ref a, u1, u2] [] μ = (if jrecv μ 13 (.ref a) = true then (jC d 173 [.ref a] μ).bind fun p1 => jR (d + 1) 187 19 [.ref a, u1, u2] (p1.1.toList ++ []) p1.2 else none) :=
  (l_aload_n (show gPG 187 15 = some (.aload_n 0) by decide +kernel) rfl jr_ref).trans <|
  l_callV (u := 1) (v := .ref a) (as := []) (show gPG 187 16 = some (jinvI 1 247) by decide +kernel) (by decide) (cc := 173) (na := 1) (kd := 13) (q4 := 0) (z := 10) (rest := []) (by decide +kernel) (by decide +kernel)  rfl (show (1 : Nat) ≤ 1 by decide) rfl cs0 (by decide +kernel) (cav jr_ref ca0)
theorem b187_19 (d : Nat) (μ : jM) (u0 : Value) (u1 : Value) (u2 : Value) : jR d 187 19 [u0, u1, u2] [] μ = some (none, μ) :=
  l_ret (show gPG 187 19 = some (.return_) by decide +kernel) (by decide +kernel)
theorem b187_26 (d : Nat) (μ : jM) (a : Nat) (u1 : Value) (u2 : Value) (s0 : Int32) : jR d 187 26 [.ref a, u1, u2] [.int s0] μ = (if s0 = 0 then jR d 187 34 [.ref a, u1, u2] [.int 0] μ else jR d 187 34 [.ref a, u1, u2] [.int 1] μ) :=
  (l_cmp0 (show gPG 187 26 = some (.ifCond .eq 7) by decide +kernel) (t := 33) (by decide +kernel)).trans <| jm_eq.trans <| ite_cg (
  l_iconst (show gPG 187 33 = some (.iconst 0) by decide +kernel) (c := 0) (by decide +kernel)) (
  (l_iconst (show gPG 187 29 = some (.iconst 1) by decide +kernel) (c := 1) (by decide +kernel)).trans <|
  l_goto (show gPG 187 30 = some (.goto 4) by decide +kernel) (t := 34) (by decide +kernel))
theorem b187_34 (d : Nat) (μ : jM) (a : Nat) (u1 : Value) (u2 : Value) (s0 : Int32) : jR (d + 1) 187 34 [.ref a, u1, u2] [.int s0] μ = (if s0 = 1 then (if jrecv μ 13 (.ref a) = true then (jC d 173 [.ref a] μ).bind fun p1 => jR (d + 1) 187 44 [.ref a, .int s0, u2] (p1.1.toList ++ []) p1.2 else none) else jR (d + 1) 187 44 [.ref a, .int s0, u2] [] μ) :=
  (l_istore_n (show gPG 187 34 = some (.istore_n 1) by decide +kernel) (ls := [.ref a, u1, u2]) (show (1 : Nat) < 3 by decide) (show _ = ([.ref a, .int s0, u2] : List Value) from rfl)).trans <|
  (l_iload_n (show gPG 187 35 = some (.iload_n 1) by decide +kernel) rfl).trans <|
  (l_iconst (show gPG 187 36 = some (.iconst 1) by decide +kernel) (c := 1) (by decide +kernel)).trans <|
  (l_cmp (show gPG 187 37 = some (.if_icmp .ne 7) by decide +kernel) (t := 44) (by decide +kernel)).trans <| jm_ne.trans <| ite_cg (
  (l_aload_n (show gPG 187 40 = some (.aload_n 0) by decide +kernel) rfl jr_ref).trans <|
  l_callV (u := 1) (v := .ref a) (as := []) (show gPG 187 41 = some (jinvI 1 247) by decide +kernel) (by decide) (cc := 173) (na := 1) (kd := 13) (q4 := 0) (z := 10) (rest := []) (by decide +kernel) (by decide +kernel)  rfl (show (1 : Nat) ≤ 1 by decide) rfl cs0 (by decide +kernel) (cav jr_ref ca0)) (
  rfl)
theorem b187_44 (d : Nat) (μ : jM) (a : Nat) (i1 : Int32) (u2 : Value) : jR d 187 44 [.ref a, .int i1, u2] [] μ = (jgI μ 13 22 (.ref a)).bind fun x1 => (if x1 = 0 then (jgI μ 13 19 (.ref a)).bind fun x2 => (if x2 = 4 then jR d 187 65 [.ref a, .int i1, u2] [.int 1, .ref a] μ else jR d 187 64 [.ref a, .int i1, u2] [.ref a] μ) else jR d 187 64 [.ref a, .int i1, u2] [.ref a] μ) :=
  (l_aload_n (show gPG 187 44 = some (.aload_n 0) by decide +kernel) rfl jr_ref).trans <|
  (l_aload_n (show gPG 187 45 = some (.aload_n 0) by decide +kernel) rfl jr_ref).trans <|
  (l_gI (show gPG 187 46 = some (.getfield 221) by decide +kernel) (kd := 13) (sl := 22) (tc := 2) (fin := 0) (z := 0) (by decide +kernel) (by decide +kernel) (by decide +kernel)).trans <| bd_cg fun x1 hx1 =>
  (l_cmp0 (show gPG 187 49 = some (.ifCond .ne 15) by decide +kernel) (t := 64) (by decide +kernel)).trans <| jm_ne.trans <| ite_cg (
  (l_aload_n (show gPG 187 52 = some (.aload_n 0) by decide +kernel) rfl jr_ref).trans <|
  (l_gI (show gPG 187 53 = some (.getfield 207) by decide +kernel) (kd := 13) (sl := 19) (tc := 0) (fin := 0) (z := 0) (by decide +kernel) (by decide +kernel) (by decide +kernel)).trans <| bd_cg fun x2 hx2 =>
  (l_iconst (show gPG 187 56 = some (.iconst 4) by decide +kernel) (c := 4) (by decide +kernel)).trans <|
  (l_cmp (show gPG 187 57 = some (.if_icmp .ne 7) by decide +kernel) (t := 64) (by decide +kernel)).trans <| jm_ne.trans <| ite_cg (
  (l_iconst (show gPG 187 60 = some (.iconst 1) by decide +kernel) (c := 1) (by decide +kernel)).trans <|
  l_goto (show gPG 187 61 = some (.goto 4) by decide +kernel) (t := 65) (by decide +kernel)) (
  rfl)) (
  rfl)
theorem b187_64 (d : Nat) (μ : jM) (a : Nat) (i1 : Int32) (u2 : Value) (s0 : Value) (hs0 : jisref s0 = true) : jR d 187 64 [.ref a, .int i1, u2] [s0] μ = jR d 187 65 [.ref a, .int i1, u2] [.int 0, s0] μ :=
  l_iconst (show gPG 187 64 = some (.iconst 0) by decide +kernel) (c := 0) (by decide +kernel)
theorem b187_65 (d : Nat) (μ : jM) (a : Nat) (i1 : Int32) (u2 : Value) (s0 : Value) (s1 : Int32) (hs0 : jisref s0 = true) : jR (d + 1) 187 65 [.ref a, .int i1, u2] [.int s1, s0] μ = (if jrecv μ 13 s0 = true then (jC d 185 [s0, .int s1] μ).bind fun p1 => jR (d + 1) 187 68 [.ref a, .int i1, u2] (p1.1.toList ++ []) p1.2 else none) :=
  l_callV (u := 1) (v := s0) (as := [.int s1]) (show gPG 187 65 = some (jinvI 1 241) by decide +kernel) (by decide) (cc := 185) (na := 2) (kd := 13) (q4 := 0) (z := 10) (rest := []) (by decide +kernel) (by decide +kernel)  rfl (show (2 : Nat) ≤ 2 by decide) rfl cs0 (by decide +kernel) (cai (cav hs0 ca0))
theorem b187_68 (d : Nat) (μ : jM) (a : Nat) (i1 : Int32) (u2 : Value) : jR (d + 1) 187 68 [.ref a, .int i1, u2] [] μ = (jgI μ 13 20 (.ref a)).bind fun x1 => (if jrecv μ 13 (.ref a) = true then (jC d 173 [.ref a] μ).bind fun p2 => jR (d + 1) 187 77 [.ref a, .int i1, .int x1] (p2.1.toList ++ []) p2.2 else none) :=
  (l_aload_n (show gPG 187 68 = some (.aload_n 0) by decide +kernel) rfl jr_ref).trans <|
  (l_gI (show gPG 187 69 = some (.getfield 218) by decide +kernel) (kd := 13) (sl := 20) (tc := 0) (fin := 0) (z := 0) (by decide +kernel) (by decide +kernel) (by decide +kernel)).trans <| bd_cg fun x1 hx1 =>
  (l_istore_n (show gPG 187 72 = some (.istore_n 2) by decide +kernel) (ls := [.ref a, .int i1, u2]) (show (2 : Nat) < 3 by decide) (show _ = ([.ref a, .int i1, .int x1] : List Value) from rfl)).trans <|
  (l_aload_n (show gPG 187 73 = some (.aload_n 0) by decide +kernel) rfl jr_ref).trans <|
  l_callV (u := 1) (v := .ref a) (as := []) (show gPG 187 74 = some (jinvI 1 247) by decide +kernel) (by decide) (cc := 173) (na := 1) (kd := 13) (q4 := 0) (z := 10) (rest := []) (by decide +kernel) (by decide +kernel)  rfl (show (1 : Nat) ≤ 1 by decide) rfl cs0 (by decide +kernel) (cav jr_ref ca0)
theorem b187_77 (d : Nat) (μ : jM) (a : Nat) (i1 : Int32) (i2 : Int32) : jR (d + 1) 187 77 [.ref a, .int i1, .int i2] [] μ = (jgI μ 13 22 (.ref a)).bind fun x1 => (if x1 = 0 then (jgI μ 13 19 (.ref a)).bind fun x2 => (if x2 = 1 then (jgI μ 13 20 (.ref a)).bind fun x3 => (jgR μ 13 0 (.ref a)).bind fun w4 => (jgI μ 13 24 (.ref a)).bind fun x5 => (jaI μ w4 x5).bind fun x6 => (jC d 165 [.int x3, .int 1, .int x6] μ).bind fun p7 => jR (d + 1) 187 110 [.ref a, .int i1, .int i2] (p7.1.toList ++ [.ref a]) p7.2 else jR (d + 1) 187 117 [.ref a, .int i1, .int i2] [.ref a] μ) else jR (d + 1) 187 117 [.ref a, .int i1, .int i2] [.ref a] μ) :=
  (l_aload_n (show gPG 187 77 = some (.aload_n 0) by decide +kernel) rfl jr_ref).trans <|
  (l_aload_n (show gPG 187 78 = some (.aload_n 0) by decide +kernel) rfl jr_ref).trans <|
  (l_gI (show gPG 187 79 = some (.getfield 221) by decide +kernel) (kd := 13) (sl := 22) (tc := 2) (fin := 0) (z := 0) (by decide +kernel) (by decide +kernel) (by decide +kernel)).trans <| bd_cg fun x1 hx1 =>
  (l_cmp0 (show gPG 187 82 = some (.ifCond .ne 35) by decide +kernel) (t := 117) (by decide +kernel)).trans <| jm_ne.trans <| ite_cg (
  (l_aload_n (show gPG 187 85 = some (.aload_n 0) by decide +kernel) rfl jr_ref).trans <|
  (l_gI (show gPG 187 86 = some (.getfield 207) by decide +kernel) (kd := 13) (sl := 19) (tc := 0) (fin := 0) (z := 0) (by decide +kernel) (by decide +kernel) (by decide +kernel)).trans <| bd_cg fun x2 hx2 =>
  (l_iconst (show gPG 187 89 = some (.iconst 1) by decide +kernel) (c := 1) (by decide +kernel)).trans <|
  (l_cmp (show gPG 187 90 = some (.if_icmp .ne 27) by decide +kernel) (t := 117) (by decide +kernel)).trans <| jm_ne.trans <| ite_cg (
  (l_aload_n (show gPG 187 93 = some (.aload_n 0) by decide +kernel) rfl jr_ref).trans <|
  (l_gI (show gPG 187 94 = some (.getfield 218) by decide +kernel) (kd := 13) (sl := 20) (tc := 0) (fin := 0) (z := 0) (by decide +kernel) (by decide +kernel) (by decide +kernel)).trans <| bd_cg fun x3 hx3 =>
  (l_iconst (show gPG 187 97 = some (.iconst 1) by decide +kernel) (c := 1) (by decide +kernel)).trans <|
  (l_aload_n (show gPG 187 98 = some (.aload_n 0) by decide +kernel) rfl jr_ref).trans <|
  (l_gR (show gPG 187 99 = some (.getfield 11) by decide +kernel) (kd := 13) (sl := 0) (tc := 1) (fin := 1) (z := 0) (by decide +kernel) (by decide +kernel) (by decide +kernel)).trans <| bd_cg fun w4 hw4 =>
  (l_aload_n (show gPG 187 102 = some (.aload_n 0) by decide +kernel) rfl jr_ref).trans <|
  (l_gI (show gPG 187 103 = some (.getfield 250) by decide +kernel) (kd := 13) (sl := 24) (tc := 0) (fin := 0) (z := 0) (by decide +kernel) (by decide +kernel) (by decide +kernel)).trans <| bd_cg fun x5 hx5 =>
  (l_iald (show gPG 187 106 = some (.iaload) by decide +kernel) ).trans <| bd_cg fun x6 hx6 =>
  l_callS (u := 2) (as := [.int x3, .int 1, .int x6]) (show gPG 187 107 = some (jinvI 2 125) by decide +kernel) (by decide) (cc := 165) (na := 3) (q4 := 0) (z := 12) (rest := [.ref a]) (by decide +kernel) (by decide +kernel)  rfl (show (3 : Nat) ≤ 4 by decide) rfl (csv jr_ref cs0) (by decide +kernel) (cai (cai (cai ca0))) (fun e => absurd e (by decide))) (
  rfl)) (
  rfl)
theorem b187_110 (d : Nat) (μ : jM) (a : Nat) (i1 : Int32) (i2 : Int32) (s0 : Value) (s1 : Int32) (hs0 : jisref s0 = true) : jR d 187 110 [.ref a, .int i1, .int i2] [.int s1, s0] μ = (if s1 = 0 then jR d 187 117 [.ref a, .int i1, .int i2] [s0] μ else jR d 187 118 [.ref a, .int i1, .int i2] [.int 1, s0] μ) :=
  (l_cmp0 (show gPG 187 110 = some (.ifCond .eq 7) by decide +kernel) (t := 117) (by decide +kernel)).trans <| jm_eq.trans <| ite_cg (
  rfl) (
  (l_iconst (show gPG 187 113 = some (.iconst 1) by decide +kernel) (c := 1) (by decide +kernel)).trans <|
  l_goto (show gPG 187 114 = some (.goto 4) by decide +kernel) (t := 118) (by decide +kernel))
theorem b187_117 (d : Nat) (μ : jM) (a : Nat) (i1 : Int32) (i2 : Int32) (s0 : Value) (hs0 : jisref s0 = true) : jR d 187 117 [.ref a, .int i1, .int i2] [s0] μ = jR d 187 118 [.ref a, .int i1, .int i2] [.int 0, s0] μ :=
  l_iconst (show gPG 187 117 = some (.iconst 0) by decide +kernel) (c := 0) (by decide +kernel)
theorem b187_118 (d : Nat) (μ : jM) (a : Nat) (i1 : Int32) (i2 : Int32) (s0 : Value) (s1 : Int32) (hs0 : jisref s0 = true) : jR (d + 1) 187 118 [.ref a, .int i1, .int i2] [.int s1, s0] μ = (if jrecv μ 13 s0 = true then (jC d 185 [s0, .int s1] μ).bind fun p1 => jR (d + 1) 187 121 [.ref a, .int i1, .int i2] (p1.1.toList ++ []) p1.2 else none) :=
  l_callV (u := 1) (v := s0) (as := [.int s1]) (show gPG 187 118 = some (jinvI 1 241) by decide +kernel) (by decide) (cc := 185) (na := 2) (kd := 13) (q4 := 0) (z := 10) (rest := []) (by decide +kernel) (by decide +kernel)  rfl (show (2 : Nat) ≤ 2 by decide) rfl cs0 (by decide +kernel) (cai (cav hs0 ca0))
theorem b187_121 (d : Nat) (μ : jM) (a : Nat) (i1 : Int32) (i2 : Int32) : jR (d + 1) 187 121 [.ref a, .int i1, .int i2] [] μ = (jgI μ 13 22 (.ref a)).bind fun x1 => (if x1 = 0 then (jgR μ 13 1 (.ref a)).bind fun w2 => (jgI μ 13 24 (.ref a)).bind fun x3 => (jaR μ w2 x3).bind fun w4 => (jgI μ 13 20 (.ref a)).bind fun x5 => (jaI μ w4 (x5 - 1)).bind fun x6 => (jC d 188 [.int x6, .int i2, .int i1] μ).bind fun p7 => jR (d + 1) 187 152 [.ref a, .int i1, .int i2] (p7.1.toList ++ [.int 3, .ref a]) p7.2 else some (none, μ)) :=
  (l_aload_n (show gPG 187 121 = some (.aload_n 0) by decide +kernel) rfl jr_ref).trans <|
  (l_gI (show gPG 187 122 = some (.getfield 221) by decide +kernel) (kd := 13) (sl := 22) (tc := 2) (fin := 0) (z := 0) (by decide +kernel) (by decide +kernel) (by decide +kernel)).trans <| bd_cg fun x1 hx1 =>
  (l_cmp0 (show gPG 187 125 = some (.ifCond .eq 4) by decide +kernel) (t := 129) (by decide +kernel)).trans <| jm_eq.trans <| ite_cg (
  (l_aload_n (show gPG 187 129 = some (.aload_n 0) by decide +kernel) rfl jr_ref).trans <|
  (l_iconst (show gPG 187 130 = some (.iconst 3) by decide +kernel) (c := 3) (by decide +kernel)).trans <|
  (l_aload_n (show gPG 187 131 = some (.aload_n 0) by decide +kernel) rfl jr_ref).trans <|
  (l_gR (show gPG 187 132 = some (.getfield 17) by decide +kernel) (kd := 13) (sl := 1) (tc := 1) (fin := 1) (z := 0) (by decide +kernel) (by decide +kernel) (by decide +kernel)).trans <| bd_cg fun w2 hw2 =>
  (l_aload_n (show gPG 187 135 = some (.aload_n 0) by decide +kernel) rfl jr_ref).trans <|
  (l_gI (show gPG 187 136 = some (.getfield 250) by decide +kernel) (kd := 13) (sl := 24) (tc := 0) (fin := 0) (z := 0) (by decide +kernel) (by decide +kernel) (by decide +kernel)).trans <| bd_cg fun x3 hx3 =>
  (l_aald (show gPG 187 139 = some (.aaload) by decide +kernel) ).trans <| bd_cg fun w4 hw4 =>
  (l_aload_n (show gPG 187 140 = some (.aload_n 0) by decide +kernel) rfl jr_ref).trans <|
  (l_gI (show gPG 187 141 = some (.getfield 218) by decide +kernel) (kd := 13) (sl := 20) (tc := 0) (fin := 0) (z := 0) (by decide +kernel) (by decide +kernel) (by decide +kernel)).trans <| bd_cg fun x5 hx5 =>
  (l_iconst (show gPG 187 144 = some (.iconst 1) by decide +kernel) (c := 1) (by decide +kernel)).trans <|
  (l_isub (show gPG 187 145 = some (.isub) by decide +kernel) ).trans <|
  (l_iald (show gPG 187 146 = some (.iaload) by decide +kernel) ).trans <| bd_cg fun x6 hx6 =>
  (l_iload_n (show gPG 187 147 = some (.iload_n 2) by decide +kernel) rfl).trans <|
  (l_iload_n (show gPG 187 148 = some (.iload_n 1) by decide +kernel) rfl).trans <|
  l_callS (u := 2) (as := [.int x6, .int i2, .int i1]) (show gPG 187 149 = some (jinvI 2 253) by decide +kernel) (by decide) (cc := 188) (na := 3) (q4 := 0) (z := 12) (rest := [.int 3, .ref a]) (by decide +kernel) (by decide +kernel)  rfl (show (3 : Nat) ≤ 5 by decide) rfl (csi (csv jr_ref cs0)) (by decide +kernel) (cai (cai (cai ca0))) (fun e => absurd e (by decide))) (
  l_ret (show gPG 187 128 = some (.return_) by decide +kernel) (by decide +kernel))
theorem b187_152 (d : Nat) (μ : jM) (a : Nat) (u1 : Value) (u2 : Value) (s0 : Value) (s1 : Int32) (s2 : Int32) (hs0 : jisref s0 = true) : jR (d + 1) 187 152 [.ref a, u1, u2] [.int s2, .int s1, s0] μ = (if jrecv μ 13 s0 = true then (jC d 183 [s0, .int s1, .int s2] μ).bind fun p1 => jR (d + 1) 187 155 [.ref a, u1, u2] (p1.1.toList ++ []) p1.2 else none) :=
  l_callV (u := 1) (v := s0) (as := [.int s1, .int s2]) (show gPG 187 152 = some (jinvI 1 245) by decide +kernel) (by decide) (cc := 183) (na := 3) (kd := 13) (q4 := 0) (z := 10) (rest := []) (by decide +kernel) (by decide +kernel)  rfl (show (3 : Nat) ≤ 3 by decide) rfl cs0 (by decide +kernel) (cai (cai (cav hs0 ca0)))
theorem b187_155 (d : Nat) (μ : jM) (a : Nat) (u1 : Value) (u2 : Value) : jR (d + 1) 187 155 [.ref a, u1, u2] [] μ = (if jrecv μ 13 (.ref a) = true then (jC d 173 [.ref a] μ).bind fun p1 => jR (d + 1) 187 159 [.ref a, u1, u2] (p1.1.toList ++ []) p1.2 else none) :=
  (l_aload_n (show gPG 187 155 = some (.aload_n 0) by decide +kernel) rfl jr_ref).trans <|
  l_callV (u := 1) (v := .ref a) (as := []) (show gPG 187 156 = some (jinvI 1 247) by decide +kernel) (by decide) (cc := 173) (na := 1) (kd := 13) (q4 := 0) (z := 10) (rest := []) (by decide +kernel) (by decide +kernel)  rfl (show (1 : Nat) ≤ 1 by decide) rfl cs0 (by decide +kernel) (cav jr_ref ca0)
theorem b187_159 (d : Nat) (μ : jM) (u0 : Value) (u1 : Value) (u2 : Value) : jR d 187 159 [u0, u1, u2] [] μ = some (none, μ) :=
  l_ret (show gPG 187 159 = some (.return_) by decide +kernel) (by decide +kernel)
-- Ref.refOf
theorem b188_0 (d : Nat) (μ : jM) (i0 : Int32) (i1 : Int32) (i2 : Int32) : jR d 188 0 [.int i0, .int i1, .int i2] [] μ = (if i0 = 0 then jR d 188 18 [.int i0, .int i1, .int i2] [.int 0] μ else jR d 188 18 [.int i0, .int i1, .int i2] [.int (((8 * i0) + (2 * i1)) + i2)] μ) :=
  (l_iload_n (show gPG 188 0 = some (.iload_n 0) by decide +kernel) rfl).trans <|
  (l_cmp0 (show gPG 188 1 = some (.ifCond .ne 7) by decide +kernel) (t := 8) (by decide +kernel)).trans <| jm_ne.trans <| ite_cg (
  (l_iconst (show gPG 188 4 = some (.iconst 0) by decide +kernel) (c := 0) (by decide +kernel)).trans <|
  l_goto (show gPG 188 5 = some (.goto 13) by decide +kernel) (t := 18) (by decide +kernel)) (
  (l_bipush (show gPG 188 8 = some (.bipush 8) by decide +kernel) (c := 8) (by decide +kernel)).trans <|
  (l_iload_n (show gPG 188 10 = some (.iload_n 0) by decide +kernel) rfl).trans <|
  (l_imul (show gPG 188 11 = some (.imul) by decide +kernel) ).trans <|
  (l_iconst (show gPG 188 12 = some (.iconst 2) by decide +kernel) (c := 2) (by decide +kernel)).trans <|
  (l_iload_n (show gPG 188 13 = some (.iload_n 1) by decide +kernel) rfl).trans <|
  (l_imul (show gPG 188 14 = some (.imul) by decide +kernel) ).trans <|
  (l_iadd (show gPG 188 15 = some (.iadd) by decide +kernel) ).trans <|
  (l_iload_n (show gPG 188 16 = some (.iload_n 2) by decide +kernel) rfl).trans <|
  l_iadd (show gPG 188 17 = some (.iadd) by decide +kernel) )
theorem b188_18 (d : Nat) (μ : jM) (u0 : Value) (u1 : Value) (u2 : Value) (s0 : Int32) : jR d 188 18 [u0, u1, u2] [.int s0] μ = some (some (.int s0), μ) :=
  l_iret1 (show gPG 188 18 = some (.ireturn) by decide +kernel) (by decide +kernel)
-- Ref.changes
theorem b189_0 (d : Nat) (μ : jM) (a : Nat) : jR d 189 0 [.ref a, .retAddr 0] [] μ = (jgI μ 13 14 (.ref a)).bind fun x1 => (if x1 = 6 then jR d 189 11 [.ref a, .int 1] [] μ else jR d 189 41 [.ref a, .retAddr 0] [] μ) :=
  (l_aload_n (show gPG 189 0 = some (.aload_n 0) by decide +kernel) rfl jr_ref).trans <|
  (l_gI (show gPG 189 1 = some (.getfield 149) by decide +kernel) (kd := 13) (sl := 14) (tc := 0) (fin := 0) (z := 0) (by decide +kernel) (by decide +kernel) (by decide +kernel)).trans <| bd_cg fun x1 hx1 =>
  (l_bipush (show gPG 189 4 = some (.bipush 6) by decide +kernel) (c := 6) (by decide +kernel)).trans <|
  (l_cmp (show gPG 189 6 = some (.if_icmp .ne 35) by decide +kernel) (t := 41) (by decide +kernel)).trans <| jm_ne.trans <| ite_cg (
  (l_iconst (show gPG 189 9 = some (.iconst 1) by decide +kernel) (c := 1) (by decide +kernel)).trans <|
  l_istore_n (show gPG 189 10 = some (.istore_n 1) by decide +kernel) (ls := [.ref a, .retAddr 0]) (show (1 : Nat) < 2 by decide) (show _ = ([.ref a, .int 1] : List Value) from rfl)) (
  rfl)
theorem b189_11 (d : Nat) (μ : jM) (a : Nat) (i1 : Int32) : jR (d + 1) 189 11 [.ref a, .int i1] [] μ = (if i1 < 6 then (if jrecv μ 13 (.ref a) = true then (jC d 190 [.ref a, .int i1, .int (i1 - 1)] μ).bind fun p3 => jR (d + 1) 189 25 [.ref a, .int i1] (p3.1.toList ++ []) p3.2 else none) else (jgI μ 13 14 (.ref a)).bind fun x1 => (jpI μ 13 14 0 (.ref a) (x1 - 1)).bind fun m2 => jR (d + 1) 189 41 [.ref a, .int i1] [] m2) :=
  (l_iload_n (show gPG 189 11 = some (.iload_n 1) by decide +kernel) rfl).trans <|
  (l_bipush (show gPG 189 12 = some (.bipush 6) by decide +kernel) (c := 6) (by decide +kernel)).trans <|
  (l_cmp (show gPG 189 14 = some (.if_icmp .ge 17) by decide +kernel) (t := 31) (by decide +kernel)).trans <| jm_ge.trans <| ite_cg (
  (l_aload_n (show gPG 189 17 = some (.aload_n 0) by decide +kernel) rfl jr_ref).trans <|
  (l_iload_n (show gPG 189 18 = some (.iload_n 1) by decide +kernel) rfl).trans <|
  (l_iload_n (show gPG 189 19 = some (.iload_n 1) by decide +kernel) rfl).trans <|
  (l_iconst (show gPG 189 20 = some (.iconst 1) by decide +kernel) (c := 1) (by decide +kernel)).trans <|
  (l_isub (show gPG 189 21 = some (.isub) by decide +kernel) ).trans <|
  l_callV (u := 1) (v := .ref a) (as := [.int i1, .int (i1 - 1)]) (show gPG 189 22 = some (jinvI 1 153) by decide +kernel) (by decide) (cc := 190) (na := 3) (kd := 13) (q4 := 0) (z := 10) (rest := []) (by decide +kernel) (by decide +kernel)  rfl (show (3 : Nat) ≤ 3 by decide) rfl cs0 (by decide +kernel) (cai (cai (cav jr_ref ca0)))) (
  (l_aload_n (show gPG 189 31 = some (.aload_n 0) by decide +kernel) rfl jr_ref).trans <|
  (l_dup (show gPG 189 32 = some (.dup) by decide +kernel) (jr_cat1 jr_ref)).trans <|
  (l_gI (show gPG 189 33 = some (.getfield 149) by decide +kernel) (kd := 13) (sl := 14) (tc := 0) (fin := 0) (z := 0) (by decide +kernel) (by decide +kernel) (by decide +kernel)).trans <| bd_cg fun x1 hx1 =>
  (l_iconst (show gPG 189 36 = some (.iconst 1) by decide +kernel) (c := 1) (by decide +kernel)).trans <|
  (l_isub (show gPG 189 37 = some (.isub) by decide +kernel) ).trans <|
  (l_pI (show gPG 189 38 = some (.putfield 149) by decide +kernel) (kd := 13) (sl := 14) (tc := 0) (fin := 0) (z := 0) (by decide +kernel) (by decide +kernel) (by decide +kernel)).trans <| bd_cg fun m2 hm2 =>
  rfl)
theorem b189_25 (d : Nat) (μ : jM) (a : Nat) (i1 : Int32) : jR d 189 25 [.ref a, .int i1] [] μ = jR d 189 11 [.ref a, .int (i1 + 1)] [] μ :=
  (l_iinc (show gPG 189 25 = some (.iinc 1 1) by decide +kernel) (c := 1) (by decide +kernel) rfl (show _ = ([.ref a, .int (i1 + 1)] : List Value) from rfl)).trans <|
  l_goto (show gPG 189 28 = some (.goto (-17)) by decide +kernel) (t := 11) (by decide +kernel)
theorem b189_41 (d : Nat) (μ : jM) (a : Nat) (u1 : Value) : jR d 189 41 [.ref a, u1] [] μ = jR d 189 43 [.ref a, .int 0] [] μ :=
  (l_iconst (show gPG 189 41 = some (.iconst 0) by decide +kernel) (c := 0) (by decide +kernel)).trans <|
  l_istore_n (show gPG 189 42 = some (.istore_n 1) by decide +kernel) (ls := [.ref a, u1]) (show (1 : Nat) < 2 by decide) (show _ = ([.ref a, .int 0] : List Value) from rfl)
theorem b189_43 (d : Nat) (μ : jM) (a : Nat) (i1 : Int32) : jR (d + 1) 189 43 [.ref a, .int i1] [] μ = (if i1 < 3 then (jgI μ 13 14 (.ref a)).bind fun x4 => (if jrecv μ 13 (.ref a) = true then (jC d 191 [.ref a, .int x4, .int i1] μ).bind fun p5 => jR (d + 1) 189 57 [.ref a, .int i1] (p5.1.toList ++ []) p5.2 else none) else (jgI μ 13 14 (.ref a)).bind fun x1 => (jpI μ 13 14 0 (.ref a) (x1 + 1)).bind fun m2 => (if jrecv m2 13 (.ref a) = true then (jC d 163 [.ref a] m2).bind fun p3 => jR (d + 1) 189 77 [.ref a, .int i1] (p3.1.toList ++ []) p3.2 else none)) :=
  (l_iload_n (show gPG 189 43 = some (.iload_n 1) by decide +kernel) rfl).trans <|
  (l_iconst (show gPG 189 44 = some (.iconst 3) by decide +kernel) (c := 3) (by decide +kernel)).trans <|
  (l_cmp (show gPG 189 45 = some (.if_icmp .ge 18) by decide +kernel) (t := 63) (by decide +kernel)).trans <| jm_ge.trans <| ite_cg (
  (l_aload_n (show gPG 189 48 = some (.aload_n 0) by decide +kernel) rfl jr_ref).trans <|
  (l_aload_n (show gPG 189 49 = some (.aload_n 0) by decide +kernel) rfl jr_ref).trans <|
  (l_gI (show gPG 189 50 = some (.getfield 149) by decide +kernel) (kd := 13) (sl := 14) (tc := 0) (fin := 0) (z := 0) (by decide +kernel) (by decide +kernel) (by decide +kernel)).trans <| bd_cg fun x4 hx4 =>
  (l_iload_n (show gPG 189 53 = some (.iload_n 1) by decide +kernel) rfl).trans <|
  l_callV (u := 1) (v := .ref a) (as := [.int x4, .int i1]) (show gPG 189 54 = some (jinvI 1 157) by decide +kernel) (by decide) (cc := 191) (na := 3) (kd := 13) (q4 := 0) (z := 10) (rest := []) (by decide +kernel) (by decide +kernel)  rfl (show (3 : Nat) ≤ 3 by decide) rfl cs0 (by decide +kernel) (cai (cai (cav jr_ref ca0)))) (
  (l_aload_n (show gPG 189 63 = some (.aload_n 0) by decide +kernel) rfl jr_ref).trans <|
  (l_dup (show gPG 189 64 = some (.dup) by decide +kernel) (jr_cat1 jr_ref)).trans <|
  (l_gI (show gPG 189 65 = some (.getfield 149) by decide +kernel) (kd := 13) (sl := 14) (tc := 0) (fin := 0) (z := 0) (by decide +kernel) (by decide +kernel) (by decide +kernel)).trans <| bd_cg fun x1 hx1 =>
  (l_iconst (show gPG 189 68 = some (.iconst 1) by decide +kernel) (c := 1) (by decide +kernel)).trans <|
  (l_iadd (show gPG 189 69 = some (.iadd) by decide +kernel) ).trans <|
  (l_pI (show gPG 189 70 = some (.putfield 149) by decide +kernel) (kd := 13) (sl := 14) (tc := 0) (fin := 0) (z := 0) (by decide +kernel) (by decide +kernel) (by decide +kernel)).trans <| bd_cg fun m2 hm2 =>
  (l_aload_n (show gPG 189 73 = some (.aload_n 0) by decide +kernel) rfl jr_ref).trans <|
  l_callV (u := 1) (v := .ref a) (as := []) (show gPG 189 74 = some (jinvI 1 160) by decide +kernel) (by decide) (cc := 163) (na := 1) (kd := 13) (q4 := 0) (z := 10) (rest := []) (by decide +kernel) (by decide +kernel)  rfl (show (1 : Nat) ≤ 1 by decide) rfl cs0 (by decide +kernel) (cav jr_ref ca0))
theorem b189_57 (d : Nat) (μ : jM) (a : Nat) (i1 : Int32) : jR d 189 57 [.ref a, .int i1] [] μ = jR d 189 43 [.ref a, .int (i1 + 1)] [] μ :=
  (l_iinc (show gPG 189 57 = some (.iinc 1 1) by decide +kernel) (c := 1) (by decide +kernel) rfl (show _ = ([.ref a, .int (i1 + 1)] : List Value) from rfl)).trans <|
  l_goto (show gPG 189 60 = some (.goto (-17)) by decide +kernel) (t := 43) (by decide +kernel)
theorem b189_77 (d : Nat) (μ : jM) (u0 : Value) (u1 : Value) : jR d 189 77 [u0, u1] [] μ = some (none, μ) :=
  l_ret (show gPG 189 77 = some (.return_) by decide +kernel) (by decide +kernel)
-- Ref.moveAside
theorem b190_0 (d : Nat) (μ : jM) (a : Nat) (i1 : Int32) (i2 : Int32) : jR d 190 0 [.ref a, .int i1, .int i2, .retAddr 0, .retAddr 0] [] μ = jR d 190 2 [.ref a, .int i1, .int i2, .int 0, .retAddr 0] [] μ :=
  (l_iconst (show gPG 190 0 = some (.iconst 0) by decide +kernel) (c := 0) (by decide +kernel)).trans <|
  l_istore_n (show gPG 190 1 = some (.istore_n 3) by decide +kernel) (ls := [.ref a, .int i1, .int i2, .retAddr 0, .retAddr 0]) (show (3 : Nat) < 5 by decide) (show _ = ([.ref a, .int i1, .int i2, .int 0, .retAddr 0] : List Value) from rfl)
theorem b190_2 (d : Nat) (μ : jM) (a : Nat) (i1 : Int32) (i2 : Int32) (i3 : Int32) (u4 : Value) : jR (d + 1) 190 2 [.ref a, .int i1, .int i2, .int i3, u4] [] μ = (if i3 < 3 then (jgR μ 13 8 (.ref a)).bind fun w1 => (jaR μ w1 i2).bind fun w2 => (jgR μ 13 8 (.ref a)).bind fun w3 => (jaR μ w3 i1).bind fun w4 => (jaI μ w4 i3).bind fun x5 => (jsI μ w2 i3 x5).bind fun m6 => (jgR m6 13 9 (.ref a)).bind fun w7 => (jaR m6 w7 i1).bind fun w8 => (jaR m6 w8 i3).bind fun w9 => (jgR m6 13 9 (.ref a)).bind fun w10 => (jaR m6 w10 i2).bind fun w11 => (jaR m6 w11 i3).bind fun w12 => (jcp m6 w9 0 w12 0 8).bind fun m13 => (jgR m13 13 10 (.ref a)).bind fun w14 => (jaR m13 w14 i1).bind fun w15 => (jaR m13 w15 i3).bind fun w16 => (jgR m13 13 10 (.ref a)).bind fun w17 => (jaR m13 w17 i2).bind fun w18 => (jaR m13 w18 i3).bind fun w19 => (jcp m13 w16 0 w19 0 24).bind fun m20 => (jgR m20 13 11 (.ref a)).bind fun w21 => (jaR m20 w21 i1).bind fun w22 => (jaR m20 w22 i3).bind fun w23 => (jgR m20 13 11 (.ref a)).bind fun w24 => (jaR m20 w24 i2).bind fun w25 => (jaR m20 w25 i3).bind fun w26 => (jcp m20 w23 0 w26 0 24).bind fun m27 => (jgR m27 13 12 (.ref a)).bind fun w28 => (jaR m27 w28 i1).bind fun w29 => (jaR m27 w29 i3).bind fun w30 => (jgR m27 13 12 (.ref a)).bind fun w31 => (jaR m27 w31 i2).bind fun w32 => (jaR m27 w32 i3).bind fun w33 => (jcp m27 w30 0 w33 0 24).bind fun m34 => jR (d + 1) 190 118 [.ref a, .int i1, .int i2, .int i3, .int 0] [] m34 else some (none, μ)) :=
  (l_iload_n (show gPG 190 2 = some (.iload_n 3) by decide +kernel) rfl).trans <|
  (l_iconst (show gPG 190 3 = some (.iconst 3) by decide +kernel) (c := 3) (by decide +kernel)).trans <|
  (l_cmp (show gPG 190 4 = some (.if_icmp .ge 155) by decide +kernel) (t := 159) (by decide +kernel)).trans <| jm_ge.trans <| ite_cg (
  (l_aload_n (show gPG 190 7 = some (.aload_n 0) by decide +kernel) rfl jr_ref).trans <|
  (l_gR (show gPG 190 8 = some (.getfield 40) by decide +kernel) (kd := 13) (sl := 8) (tc := 1) (fin := 1) (z := 0) (by decide +kernel) (by decide +kernel) (by decide +kernel)).trans <| bd_cg fun w1 hw1 =>
  (l_iload_n (show gPG 190 11 = some (.iload_n 2) by decide +kernel) rfl).trans <|
  (l_aald (show gPG 190 12 = some (.aaload) by decide +kernel) ).trans <| bd_cg fun w2 hw2 =>
  (l_iload_n (show gPG 190 13 = some (.iload_n 3) by decide +kernel) rfl).trans <|
  (l_aload_n (show gPG 190 14 = some (.aload_n 0) by decide +kernel) rfl jr_ref).trans <|
  (l_gR (show gPG 190 15 = some (.getfield 40) by decide +kernel) (kd := 13) (sl := 8) (tc := 1) (fin := 1) (z := 0) (by decide +kernel) (by decide +kernel) (by decide +kernel)).trans <| bd_cg fun w3 hw3 =>
  (l_iload_n (show gPG 190 18 = some (.iload_n 1) by decide +kernel) rfl).trans <|
  (l_aald (show gPG 190 19 = some (.aaload) by decide +kernel) ).trans <| bd_cg fun w4 hw4 =>
  (l_iload_n (show gPG 190 20 = some (.iload_n 3) by decide +kernel) rfl).trans <|
  (l_iald (show gPG 190 21 = some (.iaload) by decide +kernel) ).trans <| bd_cg fun x5 hx5 =>
  (l_iast (show gPG 190 22 = some (.iastore) by decide +kernel) ).trans <| bd_cg fun m6 hm6 =>
  (l_aload_n (show gPG 190 23 = some (.aload_n 0) by decide +kernel) rfl jr_ref).trans <|
  (l_gR (show gPG 190 24 = some (.getfield 43) by decide +kernel) (kd := 13) (sl := 9) (tc := 1) (fin := 1) (z := 0) (by decide +kernel) (by decide +kernel) (by decide +kernel)).trans <| bd_cg fun w7 hw7 =>
  (l_iload_n (show gPG 190 27 = some (.iload_n 1) by decide +kernel) rfl).trans <|
  (l_aald (show gPG 190 28 = some (.aaload) by decide +kernel) ).trans <| bd_cg fun w8 hw8 =>
  (l_iload_n (show gPG 190 29 = some (.iload_n 3) by decide +kernel) rfl).trans <|
  (l_aald (show gPG 190 30 = some (.aaload) by decide +kernel) ).trans <| bd_cg fun w9 hw9 =>
  (l_iconst (show gPG 190 31 = some (.iconst 0) by decide +kernel) (c := 0) (by decide +kernel)).trans <|
  (l_aload_n (show gPG 190 32 = some (.aload_n 0) by decide +kernel) rfl jr_ref).trans <|
  (l_gR (show gPG 190 33 = some (.getfield 43) by decide +kernel) (kd := 13) (sl := 9) (tc := 1) (fin := 1) (z := 0) (by decide +kernel) (by decide +kernel) (by decide +kernel)).trans <| bd_cg fun w10 hw10 =>
  (l_iload_n (show gPG 190 36 = some (.iload_n 2) by decide +kernel) rfl).trans <|
  (l_aald (show gPG 190 37 = some (.aaload) by decide +kernel) ).trans <| bd_cg fun w11 hw11 =>
  (l_iload_n (show gPG 190 38 = some (.iload_n 3) by decide +kernel) rfl).trans <|
  (l_aald (show gPG 190 39 = some (.aaload) by decide +kernel) ).trans <| bd_cg fun w12 hw12 =>
  (l_iconst (show gPG 190 40 = some (.iconst 0) by decide +kernel) (c := 0) (by decide +kernel)).trans <|
  (l_bipush (show gPG 190 41 = some (.bipush 8) by decide +kernel) (c := 8) (by decide +kernel)).trans <|
  (l_acp (show gPG 190 43 = some (.invokestatic 143) by decide +kernel) (q3 := 99) (q4 := 0) (z := 19) (by decide +kernel) (by decide +kernel) (jr_aR hw9) (jr_aR hw12) cs0 (by decide +kernel)).trans <| bd_cg fun m13 hm13 =>
  (l_aload_n (show gPG 190 46 = some (.aload_n 0) by decide +kernel) rfl jr_ref).trans <|
  (l_gR (show gPG 190 47 = some (.getfield 46) by decide +kernel) (kd := 13) (sl := 10) (tc := 1) (fin := 1) (z := 0) (by decide +kernel) (by decide +kernel) (by decide +kernel)).trans <| bd_cg fun w14 hw14 =>
  (l_iload_n (show gPG 190 50 = some (.iload_n 1) by decide +kernel) rfl).trans <|
  (l_aald (show gPG 190 51 = some (.aaload) by decide +kernel) ).trans <| bd_cg fun w15 hw15 =>
  (l_iload_n (show gPG 190 52 = some (.iload_n 3) by decide +kernel) rfl).trans <|
  (l_aald (show gPG 190 53 = some (.aaload) by decide +kernel) ).trans <| bd_cg fun w16 hw16 =>
  (l_iconst (show gPG 190 54 = some (.iconst 0) by decide +kernel) (c := 0) (by decide +kernel)).trans <|
  (l_aload_n (show gPG 190 55 = some (.aload_n 0) by decide +kernel) rfl jr_ref).trans <|
  (l_gR (show gPG 190 56 = some (.getfield 46) by decide +kernel) (kd := 13) (sl := 10) (tc := 1) (fin := 1) (z := 0) (by decide +kernel) (by decide +kernel) (by decide +kernel)).trans <| bd_cg fun w17 hw17 =>
  (l_iload_n (show gPG 190 59 = some (.iload_n 2) by decide +kernel) rfl).trans <|
  (l_aald (show gPG 190 60 = some (.aaload) by decide +kernel) ).trans <| bd_cg fun w18 hw18 =>
  (l_iload_n (show gPG 190 61 = some (.iload_n 3) by decide +kernel) rfl).trans <|
  (l_aald (show gPG 190 62 = some (.aaload) by decide +kernel) ).trans <| bd_cg fun w19 hw19 =>
  (l_iconst (show gPG 190 63 = some (.iconst 0) by decide +kernel) (c := 0) (by decide +kernel)).trans <|
  (l_bipush (show gPG 190 64 = some (.bipush 24) by decide +kernel) (c := 24) (by decide +kernel)).trans <|
  (l_acp (show gPG 190 66 = some (.invokestatic 143) by decide +kernel) (q3 := 99) (q4 := 0) (z := 19) (by decide +kernel) (by decide +kernel) (jr_aR hw16) (jr_aR hw19) cs0 (by decide +kernel)).trans <| bd_cg fun m20 hm20 =>
  (l_aload_n (show gPG 190 69 = some (.aload_n 0) by decide +kernel) rfl jr_ref).trans <|
  (l_gR (show gPG 190 70 = some (.getfield 49) by decide +kernel) (kd := 13) (sl := 11) (tc := 1) (fin := 1) (z := 0) (by decide +kernel) (by decide +kernel) (by decide +kernel)).trans <| bd_cg fun w21 hw21 =>
  (l_iload_n (show gPG 190 73 = some (.iload_n 1) by decide +kernel) rfl).trans <|
  (l_aald (show gPG 190 74 = some (.aaload) by decide +kernel) ).trans <| bd_cg fun w22 hw22 =>
  (l_iload_n (show gPG 190 75 = some (.iload_n 3) by decide +kernel) rfl).trans <|
  (l_aald (show gPG 190 76 = some (.aaload) by decide +kernel) ).trans <| bd_cg fun w23 hw23 =>
  (l_iconst (show gPG 190 77 = some (.iconst 0) by decide +kernel) (c := 0) (by decide +kernel)).trans <|
  (l_aload_n (show gPG 190 78 = some (.aload_n 0) by decide +kernel) rfl jr_ref).trans <|
  (l_gR (show gPG 190 79 = some (.getfield 49) by decide +kernel) (kd := 13) (sl := 11) (tc := 1) (fin := 1) (z := 0) (by decide +kernel) (by decide +kernel) (by decide +kernel)).trans <| bd_cg fun w24 hw24 =>
  (l_iload_n (show gPG 190 82 = some (.iload_n 2) by decide +kernel) rfl).trans <|
  (l_aald (show gPG 190 83 = some (.aaload) by decide +kernel) ).trans <| bd_cg fun w25 hw25 =>
  (l_iload_n (show gPG 190 84 = some (.iload_n 3) by decide +kernel) rfl).trans <|
  (l_aald (show gPG 190 85 = some (.aaload) by decide +kernel) ).trans <| bd_cg fun w26 hw26 =>
  (l_iconst (show gPG 190 86 = some (.iconst 0) by decide +kernel) (c := 0) (by decide +kernel)).trans <|
  (l_bipush (show gPG 190 87 = some (.bipush 24) by decide +kernel) (c := 24) (by decide +kernel)).trans <|
  (l_acp (show gPG 190 89 = some (.invokestatic 143) by decide +kernel) (q3 := 99) (q4 := 0) (z := 19) (by decide +kernel) (by decide +kernel) (jr_aR hw23) (jr_aR hw26) cs0 (by decide +kernel)).trans <| bd_cg fun m27 hm27 =>
  (l_aload_n (show gPG 190 92 = some (.aload_n 0) by decide +kernel) rfl jr_ref).trans <|
  (l_gR (show gPG 190 93 = some (.getfield 52) by decide +kernel) (kd := 13) (sl := 12) (tc := 1) (fin := 1) (z := 0) (by decide +kernel) (by decide +kernel) (by decide +kernel)).trans <| bd_cg fun w28 hw28 =>
  (l_iload_n (show gPG 190 96 = some (.iload_n 1) by decide +kernel) rfl).trans <|
  (l_aald (show gPG 190 97 = some (.aaload) by decide +kernel) ).trans <| bd_cg fun w29 hw29 =>
  (l_iload_n (show gPG 190 98 = some (.iload_n 3) by decide +kernel) rfl).trans <|
  (l_aald (show gPG 190 99 = some (.aaload) by decide +kernel) ).trans <| bd_cg fun w30 hw30 =>
  (l_iconst (show gPG 190 100 = some (.iconst 0) by decide +kernel) (c := 0) (by decide +kernel)).trans <|
  (l_aload_n (show gPG 190 101 = some (.aload_n 0) by decide +kernel) rfl jr_ref).trans <|
  (l_gR (show gPG 190 102 = some (.getfield 52) by decide +kernel) (kd := 13) (sl := 12) (tc := 1) (fin := 1) (z := 0) (by decide +kernel) (by decide +kernel) (by decide +kernel)).trans <| bd_cg fun w31 hw31 =>
  (l_iload_n (show gPG 190 105 = some (.iload_n 2) by decide +kernel) rfl).trans <|
  (l_aald (show gPG 190 106 = some (.aaload) by decide +kernel) ).trans <| bd_cg fun w32 hw32 =>
  (l_iload_n (show gPG 190 107 = some (.iload_n 3) by decide +kernel) rfl).trans <|
  (l_aald (show gPG 190 108 = some (.aaload) by decide +kernel) ).trans <| bd_cg fun w33 hw33 =>
  (l_iconst (show gPG 190 109 = some (.iconst 0) by decide +kernel) (c := 0) (by decide +kernel)).trans <|
  (l_bipush (show gPG 190 110 = some (.bipush 24) by decide +kernel) (c := 24) (by decide +kernel)).trans <|
  (l_acp (show gPG 190 112 = some (.invokestatic 143) by decide +kernel) (q3 := 99) (q4 := 0) (z := 19) (by decide +kernel) (by decide +kernel) (jr_aR hw30) (jr_aR hw33) cs0 (by decide +kernel)).trans <| bd_cg fun m34 hm34 =>
  (l_iconst (show gPG 190 115 = some (.iconst 0) by decide +kernel) (c := 0) (by decide +kernel)).trans <|
  l_istore (show gPG 190 116 = some (.istore 4) by decide +kernel) (ls := [.ref a, .int i1, .int i2, .int i3, u4]) (show (4 : Nat) < 5 by decide) (show _ = ([.ref a, .int i1, .int i2, .int i3, .int 0] : List Value) from rfl)) (
  l_ret (show gPG 190 159 = some (.return_) by decide +kernel) (by decide +kernel))
theorem b190_118 (d : Nat) (μ : jM) (a : Nat) (i1 : Int32) (i2 : Int32) (i3 : Int32) (i4 : Int32) : jR d 190 118 [.ref a, .int i1, .int i2, .int i3, .int i4] [] μ = (if i4 < 24 then (jgR μ 13 13 (.ref a)).bind fun w1 => (jaR μ w1 i2).bind fun w2 => (jaR μ w2 i3).bind fun w3 => (jgR μ 13 13 (.ref a)).bind fun w4 => (jaR μ w4 i1).bind fun w5 => (jaR μ w5 i3).bind fun w6 => (jaR μ w6 i4).bind fun w7 => (jsR μ w3 i4 w7).bind fun m8 => jR d 190 118 [.ref a, .int i1, .int i2, .int i3, .int (i4 + 1)] [] m8 else jR d 190 2 [.ref a, .int i1, .int i2, .int (i3 + 1), .int i4] [] μ) :=
  (l_iload (show gPG 190 118 = some (.iload 4) by decide +kernel) rfl).trans <|
  (l_bipush (show gPG 190 120 = some (.bipush 24) by decide +kernel) (c := 24) (by decide +kernel)).trans <|
  (l_cmp (show gPG 190 122 = some (.if_icmp .ge 31) by decide +kernel) (t := 153) (by decide +kernel)).trans <| jm_ge.trans <| ite_cg (
  (l_aload_n (show gPG 190 125 = some (.aload_n 0) by decide +kernel) rfl jr_ref).trans <|
  (l_gR (show gPG 190 126 = some (.getfield 57) by decide +kernel) (kd := 13) (sl := 13) (tc := 1) (fin := 1) (z := 0) (by decide +kernel) (by decide +kernel) (by decide +kernel)).trans <| bd_cg fun w1 hw1 =>
  (l_iload_n (show gPG 190 129 = some (.iload_n 2) by decide +kernel) rfl).trans <|
  (l_aald (show gPG 190 130 = some (.aaload) by decide +kernel) ).trans <| bd_cg fun w2 hw2 =>
  (l_iload_n (show gPG 190 131 = some (.iload_n 3) by decide +kernel) rfl).trans <|
  (l_aald (show gPG 190 132 = some (.aaload) by decide +kernel) ).trans <| bd_cg fun w3 hw3 =>
  (l_iload (show gPG 190 133 = some (.iload 4) by decide +kernel) rfl).trans <|
  (l_aload_n (show gPG 190 135 = some (.aload_n 0) by decide +kernel) rfl jr_ref).trans <|
  (l_gR (show gPG 190 136 = some (.getfield 57) by decide +kernel) (kd := 13) (sl := 13) (tc := 1) (fin := 1) (z := 0) (by decide +kernel) (by decide +kernel) (by decide +kernel)).trans <| bd_cg fun w4 hw4 =>
  (l_iload_n (show gPG 190 139 = some (.iload_n 1) by decide +kernel) rfl).trans <|
  (l_aald (show gPG 190 140 = some (.aaload) by decide +kernel) ).trans <| bd_cg fun w5 hw5 =>
  (l_iload_n (show gPG 190 141 = some (.iload_n 3) by decide +kernel) rfl).trans <|
  (l_aald (show gPG 190 142 = some (.aaload) by decide +kernel) ).trans <| bd_cg fun w6 hw6 =>
  (l_iload (show gPG 190 143 = some (.iload 4) by decide +kernel) rfl).trans <|
  (l_aald (show gPG 190 145 = some (.aaload) by decide +kernel) ).trans <| bd_cg fun w7 hw7 =>
  (l_aast (show gPG 190 146 = some (.aastore) by decide +kernel) ).trans <| bd_cg fun m8 hm8 =>
  (l_iinc (show gPG 190 147 = some (.iinc 4 1) by decide +kernel) (c := 1) (by decide +kernel) rfl (show _ = ([.ref a, .int i1, .int i2, .int i3, .int (i4 + 1)] : List Value) from rfl)).trans <|
  l_goto (show gPG 190 150 = some (.goto (-32)) by decide +kernel) (t := 118) (by decide +kernel)) (
  (l_iinc (show gPG 190 153 = some (.iinc 3 1) by decide +kernel) (c := 1) (by decide +kernel) rfl (show _ = ([.ref a, .int i1, .int i2, .int (i3 + 1), .int i4] : List Value) from rfl)).trans <|
  l_goto (show gPG 190 156 = some (.goto (-154)) by decide +kernel) (t := 2) (by decide +kernel))
-- Ref.lay
theorem b191_0 (d : Nat) (μ : jM) (a : Nat) (i1 : Int32) (i2 : Int32) : jR (d + 1) 191 0 [.ref a, .int i1, .int i2, .retAddr 0] [] μ = (jgR μ 13 8 (.ref a)).bind fun w1 => (jaR μ w1 i1).bind fun w2 => (jgR μ 13 0 (.ref a)).bind fun w3 => (jaI μ w3 i2).bind fun x4 => (jsI μ w2 i2 x4).bind fun m5 => (jgR m5 13 1 (.ref a)).bind fun w6 => (jaR m5 w6 i2).bind fun w7 => (jgR m5 13 9 (.ref a)).bind fun w8 => (jaR m5 w8 i1).bind fun w9 => (jaR m5 w9 i2).bind fun w10 => (jcp m5 w7 0 w10 0 8).bind fun m11 => (jgR m11 13 2 (.ref a)).bind fun w12 => (jaR m11 w12 i2).bind fun w13 => (jgR m11 13 10 (.ref a)).bind fun w14 => (jaR m11 w14 i1).bind fun w15 => (jaR m11 w15 i2).bind fun w16 => (jcp m11 w13 0 w16 0 24).bind fun m17 => (jgR m17 13 3 (.ref a)).bind fun w18 => (jaR m17 w18 i2).bind fun w19 => (jgR m17 13 11 (.ref a)).bind fun w20 => (jaR m17 w20 i1).bind fun w21 => (jaR m17 w21 i2).bind fun w22 => (jcp m17 w19 0 w22 0 24).bind fun m23 => (jgR m23 13 4 (.ref a)).bind fun w24 => (jaR m23 w24 i2).bind fun w25 => (jgR m23 13 12 (.ref a)).bind fun w26 => (jaR m23 w26 i1).bind fun w27 => (jaR m23 w27 i2).bind fun w28 => (jcp m23 w25 0 w28 0 24).bind fun m29 => jR (d + 1) 191 100 [.ref a, .int i1, .int i2, .int 0] [] m29 :=
  (l_aload_n (show gPG 191 0 = some (.aload_n 0) by decide +kernel) rfl jr_ref).trans <|
  (l_gR (show gPG 191 1 = some (.getfield 40) by decide +kernel) (kd := 13) (sl := 8) (tc := 1) (fin := 1) (z := 0) (by decide +kernel) (by decide +kernel) (by decide +kernel)).trans <| bd_cg fun w1 hw1 =>
  (l_iload_n (show gPG 191 4 = some (.iload_n 1) by decide +kernel) rfl).trans <|
  (l_aald (show gPG 191 5 = some (.aaload) by decide +kernel) ).trans <| bd_cg fun w2 hw2 =>
  (l_iload_n (show gPG 191 6 = some (.iload_n 2) by decide +kernel) rfl).trans <|
  (l_aload_n (show gPG 191 7 = some (.aload_n 0) by decide +kernel) rfl jr_ref).trans <|
  (l_gR (show gPG 191 8 = some (.getfield 11) by decide +kernel) (kd := 13) (sl := 0) (tc := 1) (fin := 1) (z := 0) (by decide +kernel) (by decide +kernel) (by decide +kernel)).trans <| bd_cg fun w3 hw3 =>
  (l_iload_n (show gPG 191 11 = some (.iload_n 2) by decide +kernel) rfl).trans <|
  (l_iald (show gPG 191 12 = some (.iaload) by decide +kernel) ).trans <| bd_cg fun x4 hx4 =>
  (l_iast (show gPG 191 13 = some (.iastore) by decide +kernel) ).trans <| bd_cg fun m5 hm5 =>
  (l_aload_n (show gPG 191 14 = some (.aload_n 0) by decide +kernel) rfl jr_ref).trans <|
  (l_gR (show gPG 191 15 = some (.getfield 17) by decide +kernel) (kd := 13) (sl := 1) (tc := 1) (fin := 1) (z := 0) (by decide +kernel) (by decide +kernel) (by decide +kernel)).trans <| bd_cg fun w6 hw6 =>
  (l_iload_n (show gPG 191 18 = some (.iload_n 2) by decide +kernel) rfl).trans <|
  (l_aald (show gPG 191 19 = some (.aaload) by decide +kernel) ).trans <| bd_cg fun w7 hw7 =>
  (l_iconst (show gPG 191 20 = some (.iconst 0) by decide +kernel) (c := 0) (by decide +kernel)).trans <|
  (l_aload_n (show gPG 191 21 = some (.aload_n 0) by decide +kernel) rfl jr_ref).trans <|
  (l_gR (show gPG 191 22 = some (.getfield 43) by decide +kernel) (kd := 13) (sl := 9) (tc := 1) (fin := 1) (z := 0) (by decide +kernel) (by decide +kernel) (by decide +kernel)).trans <| bd_cg fun w8 hw8 =>
  (l_iload_n (show gPG 191 25 = some (.iload_n 1) by decide +kernel) rfl).trans <|
  (l_aald (show gPG 191 26 = some (.aaload) by decide +kernel) ).trans <| bd_cg fun w9 hw9 =>
  (l_iload_n (show gPG 191 27 = some (.iload_n 2) by decide +kernel) rfl).trans <|
  (l_aald (show gPG 191 28 = some (.aaload) by decide +kernel) ).trans <| bd_cg fun w10 hw10 =>
  (l_iconst (show gPG 191 29 = some (.iconst 0) by decide +kernel) (c := 0) (by decide +kernel)).trans <|
  (l_bipush (show gPG 191 30 = some (.bipush 8) by decide +kernel) (c := 8) (by decide +kernel)).trans <|
  (l_acp (show gPG 191 32 = some (.invokestatic 143) by decide +kernel) (q3 := 99) (q4 := 0) (z := 19) (by decide +kernel) (by decide +kernel) (jr_aR hw7) (jr_aR hw10) cs0 (by decide +kernel)).trans <| bd_cg fun m11 hm11 =>
  (l_aload_n (show gPG 191 35 = some (.aload_n 0) by decide +kernel) rfl jr_ref).trans <|
  (l_gR (show gPG 191 36 = some (.getfield 20) by decide +kernel) (kd := 13) (sl := 2) (tc := 1) (fin := 1) (z := 0) (by decide +kernel) (by decide +kernel) (by decide +kernel)).trans <| bd_cg fun w12 hw12 =>
  (l_iload_n (show gPG 191 39 = some (.iload_n 2) by decide +kernel) rfl).trans <|
  (l_aald (show gPG 191 40 = some (.aaload) by decide +kernel) ).trans <| bd_cg fun w13 hw13 =>
  (l_iconst (show gPG 191 41 = some (.iconst 0) by decide +kernel) (c := 0) (by decide +kernel)).trans <|
  (l_aload_n (show gPG 191 42 = some (.aload_n 0) by decide +kernel) rfl jr_ref).trans <|
  (l_gR (show gPG 191 43 = some (.getfield 46) by decide +kernel) (kd := 13) (sl := 10) (tc := 1) (fin := 1) (z := 0) (by decide +kernel) (by decide +kernel) (by decide +kernel)).trans <| bd_cg fun w14 hw14 =>
  (l_iload_n (show gPG 191 46 = some (.iload_n 1) by decide +kernel) rfl).trans <|
  (l_aald (show gPG 191 47 = some (.aaload) by decide +kernel) ).trans <| bd_cg fun w15 hw15 =>
  (l_iload_n (show gPG 191 48 = some (.iload_n 2) by decide +kernel) rfl).trans <|
  (l_aald (show gPG 191 49 = some (.aaload) by decide +kernel) ).trans <| bd_cg fun w16 hw16 =>
  (l_iconst (show gPG 191 50 = some (.iconst 0) by decide +kernel) (c := 0) (by decide +kernel)).trans <|
  (l_bipush (show gPG 191 51 = some (.bipush 24) by decide +kernel) (c := 24) (by decide +kernel)).trans <|
  (l_acp (show gPG 191 53 = some (.invokestatic 143) by decide +kernel) (q3 := 99) (q4 := 0) (z := 19) (by decide +kernel) (by decide +kernel) (jr_aR hw13) (jr_aR hw16) cs0 (by decide +kernel)).trans <| bd_cg fun m17 hm17 =>
  (l_aload_n (show gPG 191 56 = some (.aload_n 0) by decide +kernel) rfl jr_ref).trans <|
  (l_gR (show gPG 191 57 = some (.getfield 23) by decide +kernel) (kd := 13) (sl := 3) (tc := 1) (fin := 1) (z := 0) (by decide +kernel) (by decide +kernel) (by decide +kernel)).trans <| bd_cg fun w18 hw18 =>
  (l_iload_n (show gPG 191 60 = some (.iload_n 2) by decide +kernel) rfl).trans <|
  (l_aald (show gPG 191 61 = some (.aaload) by decide +kernel) ).trans <| bd_cg fun w19 hw19 =>
  (l_iconst (show gPG 191 62 = some (.iconst 0) by decide +kernel) (c := 0) (by decide +kernel)).trans <|
  (l_aload_n (show gPG 191 63 = some (.aload_n 0) by decide +kernel) rfl jr_ref).trans <|
  (l_gR (show gPG 191 64 = some (.getfield 49) by decide +kernel) (kd := 13) (sl := 11) (tc := 1) (fin := 1) (z := 0) (by decide +kernel) (by decide +kernel) (by decide +kernel)).trans <| bd_cg fun w20 hw20 =>
  (l_iload_n (show gPG 191 67 = some (.iload_n 1) by decide +kernel) rfl).trans <|
  (l_aald (show gPG 191 68 = some (.aaload) by decide +kernel) ).trans <| bd_cg fun w21 hw21 =>
  (l_iload_n (show gPG 191 69 = some (.iload_n 2) by decide +kernel) rfl).trans <|
  (l_aald (show gPG 191 70 = some (.aaload) by decide +kernel) ).trans <| bd_cg fun w22 hw22 =>
  (l_iconst (show gPG 191 71 = some (.iconst 0) by decide +kernel) (c := 0) (by decide +kernel)).trans <|
  (l_bipush (show gPG 191 72 = some (.bipush 24) by decide +kernel) (c := 24) (by decide +kernel)).trans <|
  (l_acp (show gPG 191 74 = some (.invokestatic 143) by decide +kernel) (q3 := 99) (q4 := 0) (z := 19) (by decide +kernel) (by decide +kernel) (jr_aR hw19) (jr_aR hw22) cs0 (by decide +kernel)).trans <| bd_cg fun m23 hm23 =>
  (l_aload_n (show gPG 191 77 = some (.aload_n 0) by decide +kernel) rfl jr_ref).trans <|
  (l_gR (show gPG 191 78 = some (.getfield 26) by decide +kernel) (kd := 13) (sl := 4) (tc := 1) (fin := 1) (z := 0) (by decide +kernel) (by decide +kernel) (by decide +kernel)).trans <| bd_cg fun w24 hw24 =>
  (l_iload_n (show gPG 191 81 = some (.iload_n 2) by decide +kernel) rfl).trans <|
  (l_aald (show gPG 191 82 = some (.aaload) by decide +kernel) ).trans <| bd_cg fun w25 hw25 =>
  (l_iconst (show gPG 191 83 = some (.iconst 0) by decide +kernel) (c := 0) (by decide +kernel)).trans <|
  (l_aload_n (show gPG 191 84 = some (.aload_n 0) by decide +kernel) rfl jr_ref).trans <|
  (l_gR (show gPG 191 85 = some (.getfield 52) by decide +kernel) (kd := 13) (sl := 12) (tc := 1) (fin := 1) (z := 0) (by decide +kernel) (by decide +kernel) (by decide +kernel)).trans <| bd_cg fun w26 hw26 =>
  (l_iload_n (show gPG 191 88 = some (.iload_n 1) by decide +kernel) rfl).trans <|
  (l_aald (show gPG 191 89 = some (.aaload) by decide +kernel) ).trans <| bd_cg fun w27 hw27 =>
  (l_iload_n (show gPG 191 90 = some (.iload_n 2) by decide +kernel) rfl).trans <|
  (l_aald (show gPG 191 91 = some (.aaload) by decide +kernel) ).trans <| bd_cg fun w28 hw28 =>
  (l_iconst (show gPG 191 92 = some (.iconst 0) by decide +kernel) (c := 0) (by decide +kernel)).trans <|
  (l_bipush (show gPG 191 93 = some (.bipush 24) by decide +kernel) (c := 24) (by decide +kernel)).trans <|
  (l_acp (show gPG 191 95 = some (.invokestatic 143) by decide +kernel) (q3 := 99) (q4 := 0) (z := 19) (by decide +kernel) (by decide +kernel) (jr_aR hw25) (jr_aR hw28) cs0 (by decide +kernel)).trans <| bd_cg fun m29 hm29 =>
  (l_iconst (show gPG 191 98 = some (.iconst 0) by decide +kernel) (c := 0) (by decide +kernel)).trans <|
  l_istore_n (show gPG 191 99 = some (.istore_n 3) by decide +kernel) (ls := [.ref a, .int i1, .int i2, .retAddr 0]) (show (3 : Nat) < 4 by decide) (show _ = ([.ref a, .int i1, .int i2, .int 0] : List Value) from rfl)
theorem b191_100 (d : Nat) (μ : jM) (a : Nat) (i1 : Int32) (i2 : Int32) (i3 : Int32) : jR d 191 100 [.ref a, .int i1, .int i2, .int i3] [] μ = (if i3 < 24 then (jgR μ 13 13 (.ref a)).bind fun w1 => (jaR μ w1 i1).bind fun w2 => (jaR μ w2 i2).bind fun w3 => (jgR μ 13 5 (.ref a)).bind fun w4 => (jaR μ w4 i2).bind fun w5 => (jaR μ w5 i3).bind fun w6 => (jsR μ w3 i3 w6).bind fun m7 => jR d 191 100 [.ref a, .int i1, .int i2, .int (i3 + 1)] [] m7 else some (none, μ)) :=
  (l_iload_n (show gPG 191 100 = some (.iload_n 3) by decide +kernel) rfl).trans <|
  (l_bipush (show gPG 191 101 = some (.bipush 24) by decide +kernel) (c := 24) (by decide +kernel)).trans <|
  (l_cmp (show gPG 191 103 = some (.if_icmp .ge 27) by decide +kernel) (t := 130) (by decide +kernel)).trans <| jm_ge.trans <| ite_cg (
  (l_aload_n (show gPG 191 106 = some (.aload_n 0) by decide +kernel) rfl jr_ref).trans <|
  (l_gR (show gPG 191 107 = some (.getfield 57) by decide +kernel) (kd := 13) (sl := 13) (tc := 1) (fin := 1) (z := 0) (by decide +kernel) (by decide +kernel) (by decide +kernel)).trans <| bd_cg fun w1 hw1 =>
  (l_iload_n (show gPG 191 110 = some (.iload_n 1) by decide +kernel) rfl).trans <|
  (l_aald (show gPG 191 111 = some (.aaload) by decide +kernel) ).trans <| bd_cg fun w2 hw2 =>
  (l_iload_n (show gPG 191 112 = some (.iload_n 2) by decide +kernel) rfl).trans <|
  (l_aald (show gPG 191 113 = some (.aaload) by decide +kernel) ).trans <| bd_cg fun w3 hw3 =>
  (l_iload_n (show gPG 191 114 = some (.iload_n 3) by decide +kernel) rfl).trans <|
  (l_aload_n (show gPG 191 115 = some (.aload_n 0) by decide +kernel) rfl jr_ref).trans <|
  (l_gR (show gPG 191 116 = some (.getfield 31) by decide +kernel) (kd := 13) (sl := 5) (tc := 1) (fin := 1) (z := 0) (by decide +kernel) (by decide +kernel) (by decide +kernel)).trans <| bd_cg fun w4 hw4 =>
  (l_iload_n (show gPG 191 119 = some (.iload_n 2) by decide +kernel) rfl).trans <|
  (l_aald (show gPG 191 120 = some (.aaload) by decide +kernel) ).trans <| bd_cg fun w5 hw5 =>
  (l_iload_n (show gPG 191 121 = some (.iload_n 3) by decide +kernel) rfl).trans <|
  (l_aald (show gPG 191 122 = some (.aaload) by decide +kernel) ).trans <| bd_cg fun w6 hw6 =>
  (l_aast (show gPG 191 123 = some (.aastore) by decide +kernel) ).trans <| bd_cg fun m7 hm7 =>
  (l_iinc (show gPG 191 124 = some (.iinc 3 1) by decide +kernel) (c := 1) (by decide +kernel) rfl (show _ = ([.ref a, .int i1, .int i2, .int (i3 + 1)] : List Value) from rfl)).trans <|
  l_goto (show gPG 191 127 = some (.goto (-27)) by decide +kernel) (t := 100) (by decide +kernel)) (
  l_ret (show gPG 191 130 = some (.return_) by decide +kernel) (by decide +kernel))
-- Ref.put/IIII[I
theorem b192_0 (d : Nat) (μ : jM) (a : Nat) (i1 : Int32) (i2 : Int32) (i3 : Int32) (i4 : Int32) (r5 : Value) (h5 : jisref r5 = true) : jR d 192 0 [.ref a, .int i1, .int i2, .int i3, .int i4, r5] [] μ = (jgR μ 13 2 (.ref a)).bind fun w1 => (jaR μ w1 i1).bind fun w2 => (jsI μ w2 i2 i3).bind fun m3 => (jgR m3 13 3 (.ref a)).bind fun w4 => (jaR m3 w4 i1).bind fun w5 => (if i3 = 1 then jR d 192 27 [.ref a, .int i1, .int i2, .int i3, .int i4, r5] [.int i4, .int i2, w5] m3 else jR d 192 27 [.ref a, .int i1, .int i2, .int i3, .int i4, r5] [.int 0, .int i2, w5] m3) :=
  (l_aload_n (show gPG 192 0 = some (.aload_n 0) by decide +kernel) rfl jr_ref).trans <|
  (l_gR (show gPG 192 1 = some (.getfield 20) by decide +kernel) (kd := 13) (sl := 2) (tc := 1) (fin := 1) (z := 0) (by decide +kernel) (by decide +kernel) (by decide +kernel)).trans <| bd_cg fun w1 hw1 =>
  (l_iload_n (show gPG 192 4 = some (.iload_n 1) by decide +kernel) rfl).trans <|
  (l_aald (show gPG 192 5 = some (.aaload) by decide +kernel) ).trans <| bd_cg fun w2 hw2 =>
  (l_iload_n (show gPG 192 6 = some (.iload_n 2) by decide +kernel) rfl).trans <|
  (l_iload_n (show gPG 192 7 = some (.iload_n 3) by decide +kernel) rfl).trans <|
  (l_iast (show gPG 192 8 = some (.iastore) by decide +kernel) ).trans <| bd_cg fun m3 hm3 =>
  (l_aload_n (show gPG 192 9 = some (.aload_n 0) by decide +kernel) rfl jr_ref).trans <|
  (l_gR (show gPG 192 10 = some (.getfield 23) by decide +kernel) (kd := 13) (sl := 3) (tc := 1) (fin := 1) (z := 0) (by decide +kernel) (by decide +kernel) (by decide +kernel)).trans <| bd_cg fun w4 hw4 =>
  (l_iload_n (show gPG 192 13 = some (.iload_n 1) by decide +kernel) rfl).trans <|
  (l_aald (show gPG 192 14 = some (.aaload) by decide +kernel) ).trans <| bd_cg fun w5 hw5 =>
  (l_iload_n (show gPG 192 15 = some (.iload_n 2) by decide +kernel) rfl).trans <|
  (l_iload_n (show gPG 192 16 = some (.iload_n 3) by decide +kernel) rfl).trans <|
  (l_iconst (show gPG 192 17 = some (.iconst 1) by decide +kernel) (c := 1) (by decide +kernel)).trans <|
  (l_cmp (show gPG 192 18 = some (.if_icmp .ne 8) by decide +kernel) (t := 26) (by decide +kernel)).trans <| jm_ne.trans <| ite_cg (
  (l_iload (show gPG 192 21 = some (.iload 4) by decide +kernel) rfl).trans <|
  l_goto (show gPG 192 23 = some (.goto 4) by decide +kernel) (t := 27) (by decide +kernel)) (
  l_iconst (show gPG 192 26 = some (.iconst 0) by decide +kernel) (c := 0) (by decide +kernel))
theorem b192_27 (d : Nat) (μ : jM) (a : Nat) (i1 : Int32) (i2 : Int32) (i3 : Int32) (u4 : Value) (r5 : Value) (s0 : Value) (s1 : Int32) (s2 : Int32) (h5 : jisref r5 = true) (hs0 : jisref s0 = true) : jR d 192 27 [.ref a, .int i1, .int i2, .int i3, u4, r5] [.int s2, .int s1, s0] μ = (jsI μ s0 s1 s2).bind fun m1 => (jgR m1 13 5 (.ref a)).bind fun w2 => (jaR m1 w2 i1).bind fun w3 => (if i3 = 2 then jR d 192 46 [.ref a, .int i1, .int i2, .int i3, u4, r5] [r5, .int i2, w3] m1 else jR d 192 46 [.ref a, .int i1, .int i2, .int i3, u4, r5] [.null, .int i2, w3] m1) :=
  (l_iast (show gPG 192 27 = some (.iastore) by decide +kernel) ).trans <| bd_cg fun m1 hm1 =>
  (l_aload_n (show gPG 192 28 = some (.aload_n 0) by decide +kernel) rfl jr_ref).trans <|
  (l_gR (show gPG 192 29 = some (.getfield 31) by decide +kernel) (kd := 13) (sl := 5) (tc := 1) (fin := 1) (z := 0) (by decide +kernel) (by decide +kernel) (by decide +kernel)).trans <| bd_cg fun w2 hw2 =>
  (l_iload_n (show gPG 192 32 = some (.iload_n 1) by decide +kernel) rfl).trans <|
  (l_aald (show gPG 192 33 = some (.aaload) by decide +kernel) ).trans <| bd_cg fun w3 hw3 =>
  (l_iload_n (show gPG 192 34 = some (.iload_n 2) by decide +kernel) rfl).trans <|
  (l_iload_n (show gPG 192 35 = some (.iload_n 3) by decide +kernel) rfl).trans <|
  (l_iconst (show gPG 192 36 = some (.iconst 2) by decide +kernel) (c := 2) (by decide +kernel)).trans <|
  (l_cmp (show gPG 192 37 = some (.if_icmp .ne 8) by decide +kernel) (t := 45) (by decide +kernel)).trans <| jm_ne.trans <| ite_cg (
  (l_aload (show gPG 192 40 = some (.aload 5) by decide +kernel) rfl h5).trans <|
  l_goto (show gPG 192 42 = some (.goto 4) by decide +kernel) (t := 46) (by decide +kernel)) (
  l_anull (show gPG 192 45 = some (.aconst_null) by decide +kernel) )
theorem b192_46 (d : Nat) (μ : jM) (u0 : Value) (u1 : Value) (u2 : Value) (u3 : Value) (u4 : Value) (u5 : Value) (s0 : Value) (s1 : Int32) (s2 : Value) (hs0 : jisref s0 = true) (hs2 : jisref s2 = true) : jR d 192 46 [u0, u1, u2, u3, u4, u5] [s2, .int s1, s0] μ = (jsR μ s0 s1 s2).bind fun m1 => some (none, m1) :=
  (l_aast (show gPG 192 46 = some (.aastore) by decide +kernel) ).trans <| bd_cg fun m1 hm1 =>
  l_ret (show gPG 192 47 = some (.return_) by decide +kernel) (by decide +kernel)
-- Ref.row
theorem b193_0 (d : Nat) (μ : jM) (a : Nat) (i1 : Int32) (i2 : Int32) (i3 : Int32) : jR (d + 1) 193 0 [.ref a, .int i1, .int i2, .int i3] [] μ = (jC d 168 [.int i1] μ).bind fun p1 => jR (d + 1) 193 4 [.ref a, .int i1, .int i2, .int i3] (p1.1.toList ++ []) p1.2 :=
  (l_iload_n (show gPG 193 0 = some (.iload_n 1) by decide +kernel) rfl).trans <|
  l_callS (u := 2) (as := [.int i1]) (show gPG 193 1 = some (jinvI 2 282) by decide +kernel) (by decide) (cc := 168) (na := 1) (q4 := 0) (z := 12) (rest := []) (by decide +kernel) (by decide +kernel)  rfl (show (1 : Nat) ≤ 1 by decide) rfl cs0 (by decide +kernel) (cai ca0) (fun e => absurd e (by decide))
theorem b193_4 (d : Nat) (μ : jM) (a : Nat) (i1 : Int32) (i2 : Int32) (i3 : Int32) (s0 : Int32) : jR (d + 1) 193 4 [.ref a, .int i1, .int i2, .int i3] [.int s0] μ = (if s0 = 0 then jR (d + 1) 193 31 [.ref a, .int i1, .int i2, .int i3] [] μ else (jgR μ 13 0 (.ref a)).bind fun w1 => (jaI μ w1 i1).bind fun x2 => (jC d 165 [.int i2, .int 0, .int x2] μ).bind fun p3 => jR (d + 1) 193 18 [.ref a, .int i1, .int i2, .int i3] (p3.1.toList ++ []) p3.2) :=
  (l_cmp0 (show gPG 193 4 = some (.ifCond .eq 27) by decide +kernel) (t := 31) (by decide +kernel)).trans <| jm_eq.trans <| ite_cg (
  rfl) (
  (l_iload_n (show gPG 193 7 = some (.iload_n 2) by decide +kernel) rfl).trans <|
  (l_iconst (show gPG 193 8 = some (.iconst 0) by decide +kernel) (c := 0) (by decide +kernel)).trans <|
  (l_aload_n (show gPG 193 9 = some (.aload_n 0) by decide +kernel) rfl jr_ref).trans <|
  (l_gR (show gPG 193 10 = some (.getfield 11) by decide +kernel) (kd := 13) (sl := 0) (tc := 1) (fin := 1) (z := 0) (by decide +kernel) (by decide +kernel) (by decide +kernel)).trans <| bd_cg fun w1 hw1 =>
  (l_iload_n (show gPG 193 13 = some (.iload_n 1) by decide +kernel) rfl).trans <|
  (l_iald (show gPG 193 14 = some (.iaload) by decide +kernel) ).trans <| bd_cg fun x2 hx2 =>
  l_callS (u := 2) (as := [.int i2, .int 0, .int x2]) (show gPG 193 15 = some (jinvI 2 125) by decide +kernel) (by decide) (cc := 165) (na := 3) (q4 := 0) (z := 12) (rest := []) (by decide +kernel) (by decide +kernel)  rfl (show (3 : Nat) ≤ 3 by decide) rfl cs0 (by decide +kernel) (cai (cai (cai ca0))) (fun e => absurd e (by decide)))
theorem b193_18 (d : Nat) (μ : jM) (a : Nat) (i1 : Int32) (i2 : Int32) (i3 : Int32) (s0 : Int32) : jR (d + 1) 193 18 [.ref a, .int i1, .int i2, .int i3] [.int s0] μ = (if s0 = 0 then jR (d + 1) 193 31 [.ref a, .int i1, .int i2, .int i3] [] μ else (jC d 165 [.int i3, .int 1, .int 99] μ).bind fun p1 => jR (d + 1) 193 28 [.ref a, .int i1, .int i2, .int i3] (p1.1.toList ++ []) p1.2) :=
  (l_cmp0 (show gPG 193 18 = some (.ifCond .eq 13) by decide +kernel) (t := 31) (by decide +kernel)).trans <| jm_eq.trans <| ite_cg (
  rfl) (
  (l_iload_n (show gPG 193 21 = some (.iload_n 3) by decide +kernel) rfl).trans <|
  (l_iconst (show gPG 193 22 = some (.iconst 1) by decide +kernel) (c := 1) (by decide +kernel)).trans <|
  (l_bipush (show gPG 193 23 = some (.bipush 99) by decide +kernel) (c := 99) (by decide +kernel)).trans <|
  l_callS (u := 2) (as := [.int i3, .int 1, .int 99]) (show gPG 193 25 = some (jinvI 2 125) by decide +kernel) (by decide) (cc := 165) (na := 3) (q4 := 0) (z := 12) (rest := []) (by decide +kernel) (by decide +kernel)  rfl (show (3 : Nat) ≤ 3 by decide) rfl cs0 (by decide +kernel) (cai (cai (cai ca0))) (fun e => absurd e (by decide)))
theorem b193_28 (d : Nat) (μ : jM) (a : Nat) (i1 : Int32) (i2 : Int32) (i3 : Int32) (s0 : Int32) : jR (d + 1) 193 28 [.ref a, .int i1, .int i2, .int i3] [.int s0] μ = (if s0 = 0 then jR (d + 1) 193 31 [.ref a, .int i1, .int i2, .int i3] [] μ else (if jrecv μ 13 (.ref a) = true then (jC d 194 [.ref a, .int i1, .int i3] μ).bind fun p1 => jR (d + 1) 193 40 [.ref a, .int i1, .int i2, .int i3] (p1.1.toList ++ []) p1.2 else none)) :=
  (l_cmp0 (show gPG 193 28 = some (.ifCond .ne 6) by decide +kernel) (t := 34) (by decide +kernel)).trans <| jm_ne.trans <| ite_cg (
  rfl) (
  (l_aload_n (show gPG 193 34 = some (.aload_n 0) by decide +kernel) rfl jr_ref).trans <|
  (l_iload_n (show gPG 193 35 = some (.iload_n 1) by decide +kernel) rfl).trans <|
  (l_iload_n (show gPG 193 36 = some (.iload_n 3) by decide +kernel) rfl).trans <|
  l_callV (u := 1) (v := .ref a) (as := [.int i1, .int i3]) (show gPG 193 37 = some (jinvI 1 301) by decide +kernel) (by decide) (cc := 194) (na := 3) (kd := 13) (q4 := 0) (z := 10) (rest := []) (by decide +kernel) (by decide +kernel)  rfl (show (3 : Nat) ≤ 3 by decide) rfl cs0 (by decide +kernel) (cai (cai (cav jr_ref ca0))))
theorem b193_31 (d : Nat) (μ : jM) (u0 : Value) (u1 : Value) (u2 : Value) (u3 : Value) : jR d 193 31 [u0, u1, u2, u3] [] μ = some (some (.int (-2)), μ) :=
  (l_bipush (show gPG 193 31 = some (.bipush (-2)) by decide +kernel) (c := (-2)) (by decide +kernel)).trans <|
  l_iret1 (show gPG 193 33 = some (.ireturn) by decide +kernel) (by decide +kernel)
theorem b193_40 (d : Nat) (μ : jM) (a : Nat) (i1 : Int32) (i2 : Int32) (i3 : Int32) (s0 : Int32) : jR (d + 1) 193 40 [.ref a, .int i1, .int i2, .int i3] [.int s0] μ = (if s0 = (-1) then (jgR μ 13 0 (.ref a)).bind fun w1 => (jaI μ w1 i1).bind fun x2 => (if x2 = 8 then some (some (.int (-4)), μ) else (if jrecv μ 13 (.ref a) = true then (jC d 189 [.ref a] μ).bind fun p3 => jR (d + 1) 193 65 [.ref a, .int i1, .int i2, .int i3] (p3.1.toList ++ []) p3.2 else none)) else some (some (.int (-3)), μ)) :=
  (l_iconst (show gPG 193 40 = some (.iconst (-1)) by decide +kernel) (c := (-1)) (by decide +kernel)).trans <|
  (l_cmp (show gPG 193 41 = some (.if_icmp .eq 6) by decide +kernel) (t := 47) (by decide +kernel)).trans <| jm_eq.trans <| ite_cg (
  (l_aload_n (show gPG 193 47 = some (.aload_n 0) by decide +kernel) rfl jr_ref).trans <|
  (l_gR (show gPG 193 48 = some (.getfield 11) by decide +kernel) (kd := 13) (sl := 0) (tc := 1) (fin := 1) (z := 0) (by decide +kernel) (by decide +kernel) (by decide +kernel)).trans <| bd_cg fun w1 hw1 =>
  (l_iload_n (show gPG 193 51 = some (.iload_n 1) by decide +kernel) rfl).trans <|
  (l_iald (show gPG 193 52 = some (.iaload) by decide +kernel) ).trans <| bd_cg fun x2 hx2 =>
  (l_bipush (show gPG 193 53 = some (.bipush 8) by decide +kernel) (c := 8) (by decide +kernel)).trans <|
  (l_cmp (show gPG 193 55 = some (.if_icmp .ne 6) by decide +kernel) (t := 61) (by decide +kernel)).trans <| jm_ne.trans <| ite_cg (
  (l_bipush (show gPG 193 58 = some (.bipush (-4)) by decide +kernel) (c := (-4)) (by decide +kernel)).trans <|
  l_iret1 (show gPG 193 60 = some (.ireturn) by decide +kernel) (by decide +kernel)) (
  (l_aload_n (show gPG 193 61 = some (.aload_n 0) by decide +kernel) rfl jr_ref).trans <|
  l_callV (u := 1) (v := .ref a) (as := []) (show gPG 193 62 = some (jinvI 1 291) by decide +kernel) (by decide) (cc := 189) (na := 1) (kd := 13) (q4 := 0) (z := 10) (rest := []) (by decide +kernel) (by decide +kernel)  rfl (show (1 : Nat) ≤ 1 by decide) rfl cs0 (by decide +kernel) (cav jr_ref ca0))) (
  (l_bipush (show gPG 193 44 = some (.bipush (-3)) by decide +kernel) (c := (-3)) (by decide +kernel)).trans <|
  l_iret1 (show gPG 193 46 = some (.ireturn) by decide +kernel) (by decide +kernel))
theorem b193_65 (d : Nat) (μ : jM) (a : Nat) (i1 : Int32) (i2 : Int32) (i3 : Int32) : jR (d + 1) 193 65 [.ref a, .int i1, .int i2, .int i3] [] μ = (if jrecv μ 13 (.ref a) = true then (jC d 195 [.ref a, .int i1, .int i2] μ).bind fun p1 => jR (d + 1) 193 71 [.ref a, .int i1, .int i2, .int i3] (p1.1.toList ++ []) p1.2 else none) :=
  (l_aload_n (show gPG 193 65 = some (.aload_n 0) by decide +kernel) rfl jr_ref).trans <|
  (l_iload_n (show gPG 193 66 = some (.iload_n 1) by decide +kernel) rfl).trans <|
  (l_iload_n (show gPG 193 67 = some (.iload_n 2) by decide +kernel) rfl).trans <|
  l_callV (u := 1) (v := .ref a) (as := [.int i1, .int i2]) (show gPG 193 68 = some (jinvI 1 305) by decide +kernel) (by decide) (cc := 195) (na := 3) (kd := 13) (q4 := 0) (z := 10) (rest := []) (by decide +kernel) (by decide +kernel)  rfl (show (3 : Nat) ≤ 3 by decide) rfl cs0 (by decide +kernel) (cai (cai (cav jr_ref ca0)))
theorem b193_71 (d : Nat) (μ : jM) (a : Nat) (i1 : Int32) (i2 : Int32) (i3 : Int32) : jR d 193 71 [.ref a, .int i1, .int i2, .int i3] [] μ = (jgR μ 13 1 (.ref a)).bind fun w1 => (jaR μ w1 i1).bind fun w2 => (jsI μ w2 i2 i3).bind fun m3 => (jgR m3 13 0 (.ref a)).bind fun w4 => (jaI m3 w4 i1).bind fun x5 => some (some (.int x5), m3) :=
  (l_aload_n (show gPG 193 71 = some (.aload_n 0) by decide +kernel) rfl jr_ref).trans <|
  (l_gR (show gPG 193 72 = some (.getfield 17) by decide +kernel) (kd := 13) (sl := 1) (tc := 1) (fin := 1) (z := 0) (by decide +kernel) (by decide +kernel) (by decide +kernel)).trans <| bd_cg fun w1 hw1 =>
  (l_iload_n (show gPG 193 75 = some (.iload_n 1) by decide +kernel) rfl).trans <|
  (l_aald (show gPG 193 76 = some (.aaload) by decide +kernel) ).trans <| bd_cg fun w2 hw2 =>
  (l_iload_n (show gPG 193 77 = some (.iload_n 2) by decide +kernel) rfl).trans <|
  (l_iload_n (show gPG 193 78 = some (.iload_n 3) by decide +kernel) rfl).trans <|
  (l_iast (show gPG 193 79 = some (.iastore) by decide +kernel) ).trans <| bd_cg fun m3 hm3 =>
  (l_aload_n (show gPG 193 80 = some (.aload_n 0) by decide +kernel) rfl jr_ref).trans <|
  (l_gR (show gPG 193 81 = some (.getfield 11) by decide +kernel) (kd := 13) (sl := 0) (tc := 1) (fin := 1) (z := 0) (by decide +kernel) (by decide +kernel) (by decide +kernel)).trans <| bd_cg fun w4 hw4 =>
  (l_iload_n (show gPG 193 84 = some (.iload_n 1) by decide +kernel) rfl).trans <|
  (l_iald (show gPG 193 85 = some (.iaload) by decide +kernel) ).trans <| bd_cg fun x5 hx5 =>
  l_iret1 (show gPG 193 86 = some (.ireturn) by decide +kernel) (by decide +kernel)
-- Ref.placeOf
theorem b194_0 (d : Nat) (μ : jM) (a : Nat) (i1 : Int32) (i2 : Int32) : jR d 194 0 [.ref a, .int i1, .int i2, .retAddr 0] [] μ = jR d 194 2 [.ref a, .int i1, .int i2, .int 0] [] μ :=
  (l_iconst (show gPG 194 0 = some (.iconst 0) by decide +kernel) (c := 0) (by decide +kernel)).trans <|
  l_istore_n (show gPG 194 1 = some (.istore_n 3) by decide +kernel) (ls := [.ref a, .int i1, .int i2, .retAddr 0]) (show (3 : Nat) < 4 by decide) (show _ = ([.ref a, .int i1, .int i2, .int 0] : List Value) from rfl)
theorem b194_2 (d : Nat) (μ : jM) (a : Nat) (i1 : Int32) (i2 : Int32) (i3 : Int32) : jR d 194 2 [.ref a, .int i1, .int i2, .int i3] [] μ = (jgR μ 13 0 (.ref a)).bind fun w1 => (jaI μ w1 i1).bind fun x2 => (if i3 < x2 then (jgR μ 13 1 (.ref a)).bind fun w3 => (jaR μ w3 i1).bind fun w4 => (jaI μ w4 i3).bind fun x5 => (if x5 = i2 then some (some (.int i3), μ) else jR d 194 2 [.ref a, .int i1, .int i2, .int (i3 + 1)] [] μ) else some (some (.int (-1)), μ)) :=
  (l_iload_n (show gPG 194 2 = some (.iload_n 3) by decide +kernel) rfl).trans <|
  (l_aload_n (show gPG 194 3 = some (.aload_n 0) by decide +kernel) rfl jr_ref).trans <|
  (l_gR (show gPG 194 4 = some (.getfield 11) by decide +kernel) (kd := 13) (sl := 0) (tc := 1) (fin := 1) (z := 0) (by decide +kernel) (by decide +kernel) (by decide +kernel)).trans <| bd_cg fun w1 hw1 =>
  (l_iload_n (show gPG 194 7 = some (.iload_n 1) by decide +kernel) rfl).trans <|
  (l_iald (show gPG 194 8 = some (.iaload) by decide +kernel) ).trans <| bd_cg fun x2 hx2 =>
  (l_cmp (show gPG 194 9 = some (.if_icmp .ge 23) by decide +kernel) (t := 32) (by decide +kernel)).trans <| jm_ge.trans <| ite_cg (
  (l_aload_n (show gPG 194 12 = some (.aload_n 0) by decide +kernel) rfl jr_ref).trans <|
  (l_gR (show gPG 194 13 = some (.getfield 17) by decide +kernel) (kd := 13) (sl := 1) (tc := 1) (fin := 1) (z := 0) (by decide +kernel) (by decide +kernel) (by decide +kernel)).trans <| bd_cg fun w3 hw3 =>
  (l_iload_n (show gPG 194 16 = some (.iload_n 1) by decide +kernel) rfl).trans <|
  (l_aald (show gPG 194 17 = some (.aaload) by decide +kernel) ).trans <| bd_cg fun w4 hw4 =>
  (l_iload_n (show gPG 194 18 = some (.iload_n 3) by decide +kernel) rfl).trans <|
  (l_iald (show gPG 194 19 = some (.iaload) by decide +kernel) ).trans <| bd_cg fun x5 hx5 =>
  (l_iload_n (show gPG 194 20 = some (.iload_n 2) by decide +kernel) rfl).trans <|
  (l_cmp (show gPG 194 21 = some (.if_icmp .ne 5) by decide +kernel) (t := 26) (by decide +kernel)).trans <| jm_ne.trans <| ite_cg (
  (l_iload_n (show gPG 194 24 = some (.iload_n 3) by decide +kernel) rfl).trans <|
  l_iret1 (show gPG 194 25 = some (.ireturn) by decide +kernel) (by decide +kernel)) (
  (l_iinc (show gPG 194 26 = some (.iinc 3 1) by decide +kernel) (c := 1) (by decide +kernel) rfl (show _ = ([.ref a, .int i1, .int i2, .int (i3 + 1)] : List Value) from rfl)).trans <|
  l_goto (show gPG 194 29 = some (.goto (-27)) by decide +kernel) (t := 2) (by decide +kernel))) (
  (l_iconst (show gPG 194 32 = some (.iconst (-1)) by decide +kernel) (c := (-1)) (by decide +kernel)).trans <|
  l_iret1 (show gPG 194 33 = some (.ireturn) by decide +kernel) (by decide +kernel))
-- Ref.opens/II
theorem b195_0 (d : Nat) (μ : jM) (a : Nat) (i1 : Int32) (i2 : Int32) : jR d 195 0 [.ref a, .int i1, .int i2, .retAddr 0] [] μ = (jgR μ 13 0 (.ref a)).bind fun w1 => (jaI μ w1 i1).bind fun x2 => jR d 195 7 [.ref a, .int i1, .int i2, .int x2] [] μ :=
  (l_aload_n (show gPG 195 0 = some (.aload_n 0) by decide +kernel) rfl jr_ref).trans <|
  (l_gR (show gPG 195 1 = some (.getfield 11) by decide +kernel) (kd := 13) (sl := 0) (tc := 1) (fin := 1) (z := 0) (by decide +kernel) (by decide +kernel) (by decide +kernel)).trans <| bd_cg fun w1 hw1 =>
  (l_iload_n (show gPG 195 4 = some (.iload_n 1) by decide +kernel) rfl).trans <|
  (l_iald (show gPG 195 5 = some (.iaload) by decide +kernel) ).trans <| bd_cg fun x2 hx2 =>
  l_istore_n (show gPG 195 6 = some (.istore_n 3) by decide +kernel) (ls := [.ref a, .int i1, .int i2, .retAddr 0]) (show (3 : Nat) < 4 by decide) (show _ = ([.ref a, .int i1, .int i2, .int x2] : List Value) from rfl)
theorem b195_7 (d : Nat) (μ : jM) (a : Nat) (i1 : Int32) (i2 : Int32) (i3 : Int32) : jR (d + 1) 195 7 [.ref a, .int i1, .int i2, .int i3] [] μ = (if i2 < i3 then (if jrecv μ 13 (.ref a) = true then (jC d 196 [.ref a, .int i1, .int (i3 - 1), .int i1, .int i3] μ).bind fun p4 => jR (d + 1) 195 22 [.ref a, .int i1, .int i2, .int i3] (p4.1.toList ++ []) p4.2 else none) else (jgR μ 13 0 (.ref a)).bind fun w1 => (jaI μ w1 i1).bind fun x2 => (jsI μ w1 i1 (x2 + 1)).bind fun m3 => jR (d + 1) 195 40 [.ref a, .int i1, .int i2, .int 0] [] m3) :=
  (l_iload_n (show gPG 195 7 = some (.iload_n 3) by decide +kernel) rfl).trans <|
  (l_iload_n (show gPG 195 8 = some (.iload_n 2) by decide +kernel) rfl).trans <|
  (l_cmp (show gPG 195 9 = some (.if_icmp .le 19) by decide +kernel) (t := 28) (by decide +kernel)).trans <| jm_le.trans <| ite_cg (
  (l_aload_n (show gPG 195 12 = some (.aload_n 0) by decide +kernel) rfl jr_ref).trans <|
  (l_iload_n (show gPG 195 13 = some (.iload_n 1) by decide +kernel) rfl).trans <|
  (l_iload_n (show gPG 195 14 = some (.iload_n 3) by decide +kernel) rfl).trans <|
  (l_iconst (show gPG 195 15 = some (.iconst 1) by decide +kernel) (c := 1) (by decide +kernel)).trans <|
  (l_isub (show gPG 195 16 = some (.isub) by decide +kernel) ).trans <|
  (l_iload_n (show gPG 195 17 = some (.iload_n 1) by decide +kernel) rfl).trans <|
  (l_iload_n (show gPG 195 18 = some (.iload_n 3) by decide +kernel) rfl).trans <|
  l_callV (u := 1) (v := .ref a) (as := [.int i1, .int (i3 - 1), .int i1, .int i3]) (show gPG 195 19 = some (jinvI 1 140) by decide +kernel) (by decide) (cc := 196) (na := 5) (kd := 13) (q4 := 0) (z := 10) (rest := []) (by decide +kernel) (by decide +kernel)  rfl (show (5 : Nat) ≤ 5 by decide) rfl cs0 (by decide +kernel) (cai (cai (cai (cai (cav jr_ref ca0)))))) (
  (l_aload_n (show gPG 195 28 = some (.aload_n 0) by decide +kernel) rfl jr_ref).trans <|
  (l_gR (show gPG 195 29 = some (.getfield 11) by decide +kernel) (kd := 13) (sl := 0) (tc := 1) (fin := 1) (z := 0) (by decide +kernel) (by decide +kernel) (by decide +kernel)).trans <| bd_cg fun w1 hw1 =>
  (l_iload_n (show gPG 195 32 = some (.iload_n 1) by decide +kernel) rfl).trans <|
  (l_dup2 (show gPG 195 33 = some (.dup2) by decide +kernel) rfl (jr_cat1 (jr_gR hw1))).trans <|
  (l_iald (show gPG 195 34 = some (.iaload) by decide +kernel) ).trans <| bd_cg fun x2 hx2 =>
  (l_iconst (show gPG 195 35 = some (.iconst 1) by decide +kernel) (c := 1) (by decide +kernel)).trans <|
  (l_iadd (show gPG 195 36 = some (.iadd) by decide +kernel) ).trans <|
  (l_iast (show gPG 195 37 = some (.iastore) by decide +kernel) ).trans <| bd_cg fun m3 hm3 =>
  (l_iconst (show gPG 195 38 = some (.iconst 0) by decide +kernel) (c := 0) (by decide +kernel)).trans <|
  l_istore_n (show gPG 195 39 = some (.istore_n 3) by decide +kernel) (ls := [.ref a, .int i1, .int i2, .int i3]) (show (3 : Nat) < 4 by decide) (show _ = ([.ref a, .int i1, .int i2, .int 0] : List Value) from rfl))
theorem b195_22 (d : Nat) (μ : jM) (a : Nat) (i1 : Int32) (i2 : Int32) (i3 : Int32) : jR d 195 22 [.ref a, .int i1, .int i2, .int i3] [] μ = jR d 195 7 [.ref a, .int i1, .int i2, .int (i3 + (-1))] [] μ :=
  (l_iinc (show gPG 195 22 = some (.iinc 3 (-1)) by decide +kernel) (c := (-1)) (by decide +kernel) rfl (show _ = ([.ref a, .int i1, .int i2, .int (i3 + (-1))] : List Value) from rfl)).trans <|
  l_goto (show gPG 195 25 = some (.goto (-18)) by decide +kernel) (t := 7) (by decide +kernel)
theorem b195_40 (d : Nat) (μ : jM) (a : Nat) (i1 : Int32) (i2 : Int32) (i3 : Int32) : jR (d + 1) 195 40 [.ref a, .int i1, .int i2, .int i3] [] μ = (if i3 < 3 then (if jrecv μ 13 (.ref a) = true then (jC d 198 [.ref a, .int i1, .int ((3 * i2) + i3)] μ).bind fun p1 => jR (d + 1) 195 55 [.ref a, .int i1, .int i2, .int i3] (p1.1.toList ++ []) p1.2 else none) else some (none, μ)) :=
  (l_iload_n (show gPG 195 40 = some (.iload_n 3) by decide +kernel) rfl).trans <|
  (l_iconst (show gPG 195 41 = some (.iconst 3) by decide +kernel) (c := 3) (by decide +kernel)).trans <|
  (l_cmp (show gPG 195 42 = some (.if_icmp .ge 19) by decide +kernel) (t := 61) (by decide +kernel)).trans <| jm_ge.trans <| ite_cg (
  (l_aload_n (show gPG 195 45 = some (.aload_n 0) by decide +kernel) rfl jr_ref).trans <|
  (l_iload_n (show gPG 195 46 = some (.iload_n 1) by decide +kernel) rfl).trans <|
  (l_iconst (show gPG 195 47 = some (.iconst 3) by decide +kernel) (c := 3) (by decide +kernel)).trans <|
  (l_iload_n (show gPG 195 48 = some (.iload_n 2) by decide +kernel) rfl).trans <|
  (l_imul (show gPG 195 49 = some (.imul) by decide +kernel) ).trans <|
  (l_iload_n (show gPG 195 50 = some (.iload_n 3) by decide +kernel) rfl).trans <|
  (l_iadd (show gPG 195 51 = some (.iadd) by decide +kernel) ).trans <|
  l_callV (u := 1) (v := .ref a) (as := [.int i1, .int ((3 * i2) + i3)]) (show gPG 195 52 = some (jinvI 1 298) by decide +kernel) (by decide) (cc := 198) (na := 3) (kd := 13) (q4 := 0) (z := 10) (rest := []) (by decide +kernel) (by decide +kernel)  rfl (show (3 : Nat) ≤ 3 by decide) rfl cs0 (by decide +kernel) (cai (cai (cav jr_ref ca0)))) (
  l_ret (show gPG 195 61 = some (.return_) by decide +kernel) (by decide +kernel))
theorem b195_55 (d : Nat) (μ : jM) (a : Nat) (i1 : Int32) (i2 : Int32) (i3 : Int32) : jR d 195 55 [.ref a, .int i1, .int i2, .int i3] [] μ = jR d 195 40 [.ref a, .int i1, .int i2, .int (i3 + 1)] [] μ :=
  (l_iinc (show gPG 195 55 = some (.iinc 3 1) by decide +kernel) (c := 1) (by decide +kernel) rfl (show _ = ([.ref a, .int i1, .int i2, .int (i3 + 1)] : List Value) from rfl)).trans <|
  l_goto (show gPG 195 58 = some (.goto (-18)) by decide +kernel) (t := 40) (by decide +kernel)
-- Ref.copyRow
theorem b196_0 (d : Nat) (μ : jM) (a : Nat) (i1 : Int32) (i2 : Int32) (i3 : Int32) (i4 : Int32) : jR d 196 0 [.ref a, .int i1, .int i2, .int i3, .int i4, .retAddr 0] [] μ = (jgR μ 13 1 (.ref a)).bind fun w1 => (jaR μ w1 i3).bind fun w2 => (jgR μ 13 1 (.ref a)).bind fun w3 => (jaR μ w3 i1).bind fun w4 => (jaI μ w4 i2).bind fun x5 => (jsI μ w2 i4 x5).bind fun m6 => jR d 196 20 [.ref a, .int i1, .int i2, .int i3, .int i4, .int 0] [] m6 :=
  (l_aload_n (show gPG 196 0 = some (.aload_n 0) by decide +kernel) rfl jr_ref).trans <|
  (l_gR (show gPG 196 1 = some (.getfield 17) by decide +kernel) (kd := 13) (sl := 1) (tc := 1) (fin := 1) (z := 0) (by decide +kernel) (by decide +kernel) (by decide +kernel)).trans <| bd_cg fun w1 hw1 =>
  (l_iload_n (show gPG 196 4 = some (.iload_n 3) by decide +kernel) rfl).trans <|
  (l_aald (show gPG 196 5 = some (.aaload) by decide +kernel) ).trans <| bd_cg fun w2 hw2 =>
  (l_iload (show gPG 196 6 = some (.iload 4) by decide +kernel) rfl).trans <|
  (l_aload_n (show gPG 196 8 = some (.aload_n 0) by decide +kernel) rfl jr_ref).trans <|
  (l_gR (show gPG 196 9 = some (.getfield 17) by decide +kernel) (kd := 13) (sl := 1) (tc := 1) (fin := 1) (z := 0) (by decide +kernel) (by decide +kernel) (by decide +kernel)).trans <| bd_cg fun w3 hw3 =>
  (l_iload_n (show gPG 196 12 = some (.iload_n 1) by decide +kernel) rfl).trans <|
  (l_aald (show gPG 196 13 = some (.aaload) by decide +kernel) ).trans <| bd_cg fun w4 hw4 =>
  (l_iload_n (show gPG 196 14 = some (.iload_n 2) by decide +kernel) rfl).trans <|
  (l_iald (show gPG 196 15 = some (.iaload) by decide +kernel) ).trans <| bd_cg fun x5 hx5 =>
  (l_iast (show gPG 196 16 = some (.iastore) by decide +kernel) ).trans <| bd_cg fun m6 hm6 =>
  (l_iconst (show gPG 196 17 = some (.iconst 0) by decide +kernel) (c := 0) (by decide +kernel)).trans <|
  l_istore (show gPG 196 18 = some (.istore 5) by decide +kernel) (ls := [.ref a, .int i1, .int i2, .int i3, .int i4, .retAddr 0]) (show (5 : Nat) < 6 by decide) (show _ = ([.ref a, .int i1, .int i2, .int i3, .int i4, .int 0] : List Value) from rfl)
theorem b196_20 (d : Nat) (μ : jM) (a : Nat) (i1 : Int32) (i2 : Int32) (i3 : Int32) (i4 : Int32) (i5 : Int32) : jR (d + 1) 196 20 [.ref a, .int i1, .int i2, .int i3, .int i4, .int i5] [] μ = (if i5 < 3 then (if jrecv μ 13 (.ref a) = true then (jC d 197 [.ref a, .int i1, .int ((3 * i2) + i5), .int i3, .int ((3 * i4) + i5)] μ).bind fun p1 => jR (d + 1) 196 45 [.ref a, .int i1, .int i2, .int i3, .int i4, .int i5] (p1.1.toList ++ []) p1.2 else none) else some (none, μ)) :=
  (l_iload (show gPG 196 20 = some (.iload 5) by decide +kernel) rfl).trans <|
  (l_iconst (show gPG 196 22 = some (.iconst 3) by decide +kernel) (c := 3) (by decide +kernel)).trans <|
  (l_cmp (show gPG 196 23 = some (.if_icmp .ge 28) by decide +kernel) (t := 51) (by decide +kernel)).trans <| jm_ge.trans <| ite_cg (
  (l_aload_n (show gPG 196 26 = some (.aload_n 0) by decide +kernel) rfl jr_ref).trans <|
  (l_iload_n (show gPG 196 27 = some (.iload_n 1) by decide +kernel) rfl).trans <|
  (l_iconst (show gPG 196 28 = some (.iconst 3) by decide +kernel) (c := 3) (by decide +kernel)).trans <|
  (l_iload_n (show gPG 196 29 = some (.iload_n 2) by decide +kernel) rfl).trans <|
  (l_imul (show gPG 196 30 = some (.imul) by decide +kernel) ).trans <|
  (l_iload (show gPG 196 31 = some (.iload 5) by decide +kernel) rfl).trans <|
  (l_iadd (show gPG 196 33 = some (.iadd) by decide +kernel) ).trans <|
  (l_iload_n (show gPG 196 34 = some (.iload_n 3) by decide +kernel) rfl).trans <|
  (l_iconst (show gPG 196 35 = some (.iconst 3) by decide +kernel) (c := 3) (by decide +kernel)).trans <|
  (l_iload (show gPG 196 36 = some (.iload 4) by decide +kernel) rfl).trans <|
  (l_imul (show gPG 196 38 = some (.imul) by decide +kernel) ).trans <|
  (l_iload (show gPG 196 39 = some (.iload 5) by decide +kernel) rfl).trans <|
  (l_iadd (show gPG 196 41 = some (.iadd) by decide +kernel) ).trans <|
  l_callV (u := 1) (v := .ref a) (as := [.int i1, .int ((3 * i2) + i5), .int i3, .int ((3 * i4) + i5)]) (show gPG 196 42 = some (jinvI 1 136) by decide +kernel) (by decide) (cc := 197) (na := 5) (kd := 13) (q4 := 0) (z := 10) (rest := []) (by decide +kernel) (by decide +kernel)  rfl (show (5 : Nat) ≤ 5 by decide) rfl cs0 (by decide +kernel) (cai (cai (cai (cai (cav jr_ref ca0)))))) (
  l_ret (show gPG 196 51 = some (.return_) by decide +kernel) (by decide +kernel))
theorem b196_45 (d : Nat) (μ : jM) (a : Nat) (i1 : Int32) (i2 : Int32) (i3 : Int32) (i4 : Int32) (i5 : Int32) : jR d 196 45 [.ref a, .int i1, .int i2, .int i3, .int i4, .int i5] [] μ = jR d 196 20 [.ref a, .int i1, .int i2, .int i3, .int i4, .int (i5 + 1)] [] μ :=
  (l_iinc (show gPG 196 45 = some (.iinc 5 1) by decide +kernel) (c := 1) (by decide +kernel) rfl (show _ = ([.ref a, .int i1, .int i2, .int i3, .int i4, .int (i5 + 1)] : List Value) from rfl)).trans <|
  l_goto (show gPG 196 48 = some (.goto (-28)) by decide +kernel) (t := 20) (by decide +kernel)
-- Ref.copyCell
theorem b197_0 (d : Nat) (μ : jM) (a : Nat) (i1 : Int32) (i2 : Int32) (i3 : Int32) (i4 : Int32) : jR d 197 0 [.ref a, .int i1, .int i2, .int i3, .int i4] [] μ = (jgR μ 13 2 (.ref a)).bind fun w1 => (jaR μ w1 i3).bind fun w2 => (jgR μ 13 2 (.ref a)).bind fun w3 => (jaR μ w3 i1).bind fun w4 => (jaI μ w4 i2).bind fun x5 => (jsI μ w2 i4 x5).bind fun m6 => (jgR m6 13 3 (.ref a)).bind fun w7 => (jaR m6 w7 i3).bind fun w8 => (jgR m6 13 3 (.ref a)).bind fun w9 => (jaR m6 w9 i1).bind fun w10 => (jaI m6 w10 i2).bind fun x11 => (jsI m6 w8 i4 x11).bind fun m12 => (jgR m12 13 5 (.ref a)).bind fun w13 => (jaR m12 w13 i3).bind fun w14 => (jgR m12 13 5 (.ref a)).bind fun w15 => (jaR m12 w15 i1).bind fun w16 => (jaR m12 w16 i2).bind fun w17 => (jsR m12 w14 i4 w17).bind fun m18 => (jgR m18 13 4 (.ref a)).bind fun w19 => (jaR m18 w19 i3).bind fun w20 => (jgR m18 13 4 (.ref a)).bind fun w21 => (jaR m18 w21 i1).bind fun w22 => (jaI m18 w22 i2).bind fun x23 => (jsI m18 w20 i4 x23).bind fun m24 => some (none, m24) :=
  (l_aload_n (show gPG 197 0 = some (.aload_n 0) by decide +kernel) rfl jr_ref).trans <|
  (l_gR (show gPG 197 1 = some (.getfield 20) by decide +kernel) (kd := 13) (sl := 2) (tc := 1) (fin := 1) (z := 0) (by decide +kernel) (by decide +kernel) (by decide +kernel)).trans <| bd_cg fun w1 hw1 =>
  (l_iload_n (show gPG 197 4 = some (.iload_n 3) by decide +kernel) rfl).trans <|
  (l_aald (show gPG 197 5 = some (.aaload) by decide +kernel) ).trans <| bd_cg fun w2 hw2 =>
  (l_iload (show gPG 197 6 = some (.iload 4) by decide +kernel) rfl).trans <|
  (l_aload_n (show gPG 197 8 = some (.aload_n 0) by decide +kernel) rfl jr_ref).trans <|
  (l_gR (show gPG 197 9 = some (.getfield 20) by decide +kernel) (kd := 13) (sl := 2) (tc := 1) (fin := 1) (z := 0) (by decide +kernel) (by decide +kernel) (by decide +kernel)).trans <| bd_cg fun w3 hw3 =>
  (l_iload_n (show gPG 197 12 = some (.iload_n 1) by decide +kernel) rfl).trans <|
  (l_aald (show gPG 197 13 = some (.aaload) by decide +kernel) ).trans <| bd_cg fun w4 hw4 =>
  (l_iload_n (show gPG 197 14 = some (.iload_n 2) by decide +kernel) rfl).trans <|
  (l_iald (show gPG 197 15 = some (.iaload) by decide +kernel) ).trans <| bd_cg fun x5 hx5 =>
  (l_iast (show gPG 197 16 = some (.iastore) by decide +kernel) ).trans <| bd_cg fun m6 hm6 =>
  (l_aload_n (show gPG 197 17 = some (.aload_n 0) by decide +kernel) rfl jr_ref).trans <|
  (l_gR (show gPG 197 18 = some (.getfield 23) by decide +kernel) (kd := 13) (sl := 3) (tc := 1) (fin := 1) (z := 0) (by decide +kernel) (by decide +kernel) (by decide +kernel)).trans <| bd_cg fun w7 hw7 =>
  (l_iload_n (show gPG 197 21 = some (.iload_n 3) by decide +kernel) rfl).trans <|
  (l_aald (show gPG 197 22 = some (.aaload) by decide +kernel) ).trans <| bd_cg fun w8 hw8 =>
  (l_iload (show gPG 197 23 = some (.iload 4) by decide +kernel) rfl).trans <|
  (l_aload_n (show gPG 197 25 = some (.aload_n 0) by decide +kernel) rfl jr_ref).trans <|
  (l_gR (show gPG 197 26 = some (.getfield 23) by decide +kernel) (kd := 13) (sl := 3) (tc := 1) (fin := 1) (z := 0) (by decide +kernel) (by decide +kernel) (by decide +kernel)).trans <| bd_cg fun w9 hw9 =>
  (l_iload_n (show gPG 197 29 = some (.iload_n 1) by decide +kernel) rfl).trans <|
  (l_aald (show gPG 197 30 = some (.aaload) by decide +kernel) ).trans <| bd_cg fun w10 hw10 =>
  (l_iload_n (show gPG 197 31 = some (.iload_n 2) by decide +kernel) rfl).trans <|
  (l_iald (show gPG 197 32 = some (.iaload) by decide +kernel) ).trans <| bd_cg fun x11 hx11 =>
  (l_iast (show gPG 197 33 = some (.iastore) by decide +kernel) ).trans <| bd_cg fun m12 hm12 =>
  (l_aload_n (show gPG 197 34 = some (.aload_n 0) by decide +kernel) rfl jr_ref).trans <|
  (l_gR (show gPG 197 35 = some (.getfield 31) by decide +kernel) (kd := 13) (sl := 5) (tc := 1) (fin := 1) (z := 0) (by decide +kernel) (by decide +kernel) (by decide +kernel)).trans <| bd_cg fun w13 hw13 =>
  (l_iload_n (show gPG 197 38 = some (.iload_n 3) by decide +kernel) rfl).trans <|
  (l_aald (show gPG 197 39 = some (.aaload) by decide +kernel) ).trans <| bd_cg fun w14 hw14 =>
  (l_iload (show gPG 197 40 = some (.iload 4) by decide +kernel) rfl).trans <|
  (l_aload_n (show gPG 197 42 = some (.aload_n 0) by decide +kernel) rfl jr_ref).trans <|
  (l_gR (show gPG 197 43 = some (.getfield 31) by decide +kernel) (kd := 13) (sl := 5) (tc := 1) (fin := 1) (z := 0) (by decide +kernel) (by decide +kernel) (by decide +kernel)).trans <| bd_cg fun w15 hw15 =>
  (l_iload_n (show gPG 197 46 = some (.iload_n 1) by decide +kernel) rfl).trans <|
  (l_aald (show gPG 197 47 = some (.aaload) by decide +kernel) ).trans <| bd_cg fun w16 hw16 =>
  (l_iload_n (show gPG 197 48 = some (.iload_n 2) by decide +kernel) rfl).trans <|
  (l_aald (show gPG 197 49 = some (.aaload) by decide +kernel) ).trans <| bd_cg fun w17 hw17 =>
  (l_aast (show gPG 197 50 = some (.aastore) by decide +kernel) ).trans <| bd_cg fun m18 hm18 =>
  (l_aload_n (show gPG 197 51 = some (.aload_n 0) by decide +kernel) rfl jr_ref).trans <|
  (l_gR (show gPG 197 52 = some (.getfield 26) by decide +kernel) (kd := 13) (sl := 4) (tc := 1) (fin := 1) (z := 0) (by decide +kernel) (by decide +kernel) (by decide +kernel)).trans <| bd_cg fun w19 hw19 =>
  (l_iload_n (show gPG 197 55 = some (.iload_n 3) by decide +kernel) rfl).trans <|
  (l_aald (show gPG 197 56 = some (.aaload) by decide +kernel) ).trans <| bd_cg fun w20 hw20 =>
  (l_iload (show gPG 197 57 = some (.iload 4) by decide +kernel) rfl).trans <|
  (l_aload_n (show gPG 197 59 = some (.aload_n 0) by decide +kernel) rfl jr_ref).trans <|
  (l_gR (show gPG 197 60 = some (.getfield 26) by decide +kernel) (kd := 13) (sl := 4) (tc := 1) (fin := 1) (z := 0) (by decide +kernel) (by decide +kernel) (by decide +kernel)).trans <| bd_cg fun w21 hw21 =>
  (l_iload_n (show gPG 197 63 = some (.iload_n 1) by decide +kernel) rfl).trans <|
  (l_aald (show gPG 197 64 = some (.aaload) by decide +kernel) ).trans <| bd_cg fun w22 hw22 =>
  (l_iload_n (show gPG 197 65 = some (.iload_n 2) by decide +kernel) rfl).trans <|
  (l_iald (show gPG 197 66 = some (.iaload) by decide +kernel) ).trans <| bd_cg fun x23 hx23 =>
  (l_iast (show gPG 197 67 = some (.iastore) by decide +kernel) ).trans <| bd_cg fun m24 hm24 =>
  l_ret (show gPG 197 68 = some (.return_) by decide +kernel) (by decide +kernel)
-- Ref.clearCell
theorem b198_0 (d : Nat) (μ : jM) (a : Nat) (i1 : Int32) (i2 : Int32) : jR d 198 0 [.ref a, .int i1, .int i2] [] μ = (jgR μ 13 2 (.ref a)).bind fun w1 => (jaR μ w1 i1).bind fun w2 => (jsI μ w2 i2 0).bind fun m3 => (jgR m3 13 3 (.ref a)).bind fun w4 => (jaR m3 w4 i1).bind fun w5 => (jsI m3 w5 i2 0).bind fun m6 => (jgR m6 13 5 (.ref a)).bind fun w7 => (jaR m6 w7 i1).bind fun w8 => (jsR m6 w8 i2 .null).bind fun m9 => (jgR m9 13 4 (.ref a)).bind fun w10 => (jaR m9 w10 i1).bind fun w11 => (jsI m9 w11 i2 0).bind fun m12 => some (none, m12) :=
  (l_aload_n (show gPG 198 0 = some (.aload_n 0) by decide +kernel) rfl jr_ref).trans <|
  (l_gR (show gPG 198 1 = some (.getfield 20) by decide +kernel) (kd := 13) (sl := 2) (tc := 1) (fin := 1) (z := 0) (by decide +kernel) (by decide +kernel) (by decide +kernel)).trans <| bd_cg fun w1 hw1 =>
  (l_iload_n (show gPG 198 4 = some (.iload_n 1) by decide +kernel) rfl).trans <|
  (l_aald (show gPG 198 5 = some (.aaload) by decide +kernel) ).trans <| bd_cg fun w2 hw2 =>
  (l_iload_n (show gPG 198 6 = some (.iload_n 2) by decide +kernel) rfl).trans <|
  (l_iconst (show gPG 198 7 = some (.iconst 0) by decide +kernel) (c := 0) (by decide +kernel)).trans <|
  (l_iast (show gPG 198 8 = some (.iastore) by decide +kernel) ).trans <| bd_cg fun m3 hm3 =>
  (l_aload_n (show gPG 198 9 = some (.aload_n 0) by decide +kernel) rfl jr_ref).trans <|
  (l_gR (show gPG 198 10 = some (.getfield 23) by decide +kernel) (kd := 13) (sl := 3) (tc := 1) (fin := 1) (z := 0) (by decide +kernel) (by decide +kernel) (by decide +kernel)).trans <| bd_cg fun w4 hw4 =>
  (l_iload_n (show gPG 198 13 = some (.iload_n 1) by decide +kernel) rfl).trans <|
  (l_aald (show gPG 198 14 = some (.aaload) by decide +kernel) ).trans <| bd_cg fun w5 hw5 =>
  (l_iload_n (show gPG 198 15 = some (.iload_n 2) by decide +kernel) rfl).trans <|
  (l_iconst (show gPG 198 16 = some (.iconst 0) by decide +kernel) (c := 0) (by decide +kernel)).trans <|
  (l_iast (show gPG 198 17 = some (.iastore) by decide +kernel) ).trans <| bd_cg fun m6 hm6 =>
  (l_aload_n (show gPG 198 18 = some (.aload_n 0) by decide +kernel) rfl jr_ref).trans <|
  (l_gR (show gPG 198 19 = some (.getfield 31) by decide +kernel) (kd := 13) (sl := 5) (tc := 1) (fin := 1) (z := 0) (by decide +kernel) (by decide +kernel) (by decide +kernel)).trans <| bd_cg fun w7 hw7 =>
  (l_iload_n (show gPG 198 22 = some (.iload_n 1) by decide +kernel) rfl).trans <|
  (l_aald (show gPG 198 23 = some (.aaload) by decide +kernel) ).trans <| bd_cg fun w8 hw8 =>
  (l_iload_n (show gPG 198 24 = some (.iload_n 2) by decide +kernel) rfl).trans <|
  (l_anull (show gPG 198 25 = some (.aconst_null) by decide +kernel) ).trans <|
  (l_aast (show gPG 198 26 = some (.aastore) by decide +kernel) ).trans <| bd_cg fun m9 hm9 =>
  (l_aload_n (show gPG 198 27 = some (.aload_n 0) by decide +kernel) rfl jr_ref).trans <|
  (l_gR (show gPG 198 28 = some (.getfield 26) by decide +kernel) (kd := 13) (sl := 4) (tc := 1) (fin := 1) (z := 0) (by decide +kernel) (by decide +kernel) (by decide +kernel)).trans <| bd_cg fun w10 hw10 =>
  (l_iload_n (show gPG 198 31 = some (.iload_n 1) by decide +kernel) rfl).trans <|
  (l_aald (show gPG 198 32 = some (.aaload) by decide +kernel) ).trans <| bd_cg fun w11 hw11 =>
  (l_iload_n (show gPG 198 33 = some (.iload_n 2) by decide +kernel) rfl).trans <|
  (l_iconst (show gPG 198 34 = some (.iconst 0) by decide +kernel) (c := 0) (by decide +kernel)).trans <|
  (l_iast (show gPG 198 35 = some (.iastore) by decide +kernel) ).trans <| bd_cg fun m12 hm12 =>
  l_ret (show gPG 198 36 = some (.return_) by decide +kernel) (by decide +kernel)
-- Ref.drop
theorem b199_0 (d : Nat) (μ : jM) (a : Nat) (i1 : Int32) (i2 : Int32) : jR (d + 1) 199 0 [.ref a, .int i1, .int i2, .retAddr 0] [] μ = (jC d 168 [.int i1] μ).bind fun p1 => jR (d + 1) 199 4 [.ref a, .int i1, .int i2, .retAddr 0] (p1.1.toList ++ []) p1.2 :=
  (l_iload_n (show gPG 199 0 = some (.iload_n 1) by decide +kernel) rfl).trans <|
  l_callS (u := 2) (as := [.int i1]) (show gPG 199 1 = some (jinvI 2 282) by decide +kernel) (by decide) (cc := 168) (na := 1) (q4 := 0) (z := 12) (rest := []) (by decide +kernel) (by decide +kernel)  rfl (show (1 : Nat) ≤ 1 by decide) rfl cs0 (by decide +kernel) (cai ca0) (fun e => absurd e (by decide))
theorem b199_4 (d : Nat) (μ : jM) (a : Nat) (i1 : Int32) (i2 : Int32) (u3 : Value) (s0 : Int32) : jR (d + 1) 199 4 [.ref a, .int i1, .int i2, u3] [.int s0] μ = (if s0 = 0 then jR (d + 1) 199 23 [.ref a, .int i1, .int i2, u3] [] μ else (jgR μ 13 0 (.ref a)).bind fun w1 => (jaI μ w1 i1).bind fun x2 => (jC d 165 [.int i2, .int 0, .int (x2 - 1)] μ).bind fun p3 => jR (d + 1) 199 20 [.ref a, .int i1, .int i2, u3] (p3.1.toList ++ []) p3.2) :=
  (l_cmp0 (show gPG 199 4 = some (.ifCond .eq 19) by decide +kernel) (t := 23) (by decide +kernel)).trans <| jm_eq.trans <| ite_cg (
  rfl) (
  (l_iload_n (show gPG 199 7 = some (.iload_n 2) by decide +kernel) rfl).trans <|
  (l_iconst (show gPG 199 8 = some (.iconst 0) by decide +kernel) (c := 0) (by decide +kernel)).trans <|
  (l_aload_n (show gPG 199 9 = some (.aload_n 0) by decide +kernel) rfl jr_ref).trans <|
  (l_gR (show gPG 199 10 = some (.getfield 11) by decide +kernel) (kd := 13) (sl := 0) (tc := 1) (fin := 1) (z := 0) (by decide +kernel) (by decide +kernel) (by decide +kernel)).trans <| bd_cg fun w1 hw1 =>
  (l_iload_n (show gPG 199 13 = some (.iload_n 1) by decide +kernel) rfl).trans <|
  (l_iald (show gPG 199 14 = some (.iaload) by decide +kernel) ).trans <| bd_cg fun x2 hx2 =>
  (l_iconst (show gPG 199 15 = some (.iconst 1) by decide +kernel) (c := 1) (by decide +kernel)).trans <|
  (l_isub (show gPG 199 16 = some (.isub) by decide +kernel) ).trans <|
  l_callS (u := 2) (as := [.int i2, .int 0, .int (x2 - 1)]) (show gPG 199 17 = some (jinvI 2 125) by decide +kernel) (by decide) (cc := 165) (na := 3) (q4 := 0) (z := 12) (rest := []) (by decide +kernel) (by decide +kernel)  rfl (show (3 : Nat) ≤ 3 by decide) rfl cs0 (by decide +kernel) (cai (cai (cai ca0))) (fun e => absurd e (by decide)))
theorem b199_20 (d : Nat) (μ : jM) (a : Nat) (i1 : Int32) (i2 : Int32) (u3 : Value) (s0 : Int32) : jR (d + 1) 199 20 [.ref a, .int i1, .int i2, u3] [.int s0] μ = (if s0 = 0 then jR (d + 1) 199 23 [.ref a, .int i1, .int i2, u3] [] μ else (if jrecv μ 13 (.ref a) = true then (jC d 189 [.ref a] μ).bind fun p1 => jR (d + 1) 199 30 [.ref a, .int i1, .int i2, u3] (p1.1.toList ++ []) p1.2 else none)) :=
  (l_cmp0 (show gPG 199 20 = some (.ifCond .ne 6) by decide +kernel) (t := 26) (by decide +kernel)).trans <| jm_ne.trans <| ite_cg (
  rfl) (
  (l_aload_n (show gPG 199 26 = some (.aload_n 0) by decide +kernel) rfl jr_ref).trans <|
  l_callV (u := 1) (v := .ref a) (as := []) (show gPG 199 27 = some (jinvI 1 291) by decide +kernel) (by decide) (cc := 189) (na := 1) (kd := 13) (q4 := 0) (z := 10) (rest := []) (by decide +kernel) (by decide +kernel)  rfl (show (1 : Nat) ≤ 1 by decide) rfl cs0 (by decide +kernel) (cav jr_ref ca0))
theorem b199_23 (d : Nat) (μ : jM) (u0 : Value) (u1 : Value) (u2 : Value) (u3 : Value) : jR d 199 23 [u0, u1, u2, u3] [] μ = some (some (.int (-2)), μ) :=
  (l_bipush (show gPG 199 23 = some (.bipush (-2)) by decide +kernel) (c := (-2)) (by decide +kernel)).trans <|
  l_iret1 (show gPG 199 25 = some (.ireturn) by decide +kernel) (by decide +kernel)
theorem b199_30 (d : Nat) (μ : jM) (a : Nat) (i1 : Int32) (i2 : Int32) (u3 : Value) : jR (d + 1) 199 30 [.ref a, .int i1, .int i2, u3] [] μ = (jgR μ 13 1 (.ref a)).bind fun w1 => (jaR μ w1 i1).bind fun w2 => (jaI μ w2 i2).bind fun x3 => (if jrecv μ 13 (.ref a) = true then (jC d 200 [.ref a, .int i1, .int i2] μ).bind fun p4 => jR (d + 1) 199 45 [.ref a, .int i1, .int i2, .int x3] (p4.1.toList ++ []) p4.2 else none) :=
  (l_aload_n (show gPG 199 30 = some (.aload_n 0) by decide +kernel) rfl jr_ref).trans <|
  (l_gR (show gPG 199 31 = some (.getfield 17) by decide +kernel) (kd := 13) (sl := 1) (tc := 1) (fin := 1) (z := 0) (by decide +kernel) (by decide +kernel) (by decide +kernel)).trans <| bd_cg fun w1 hw1 =>
  (l_iload_n (show gPG 199 34 = some (.iload_n 1) by decide +kernel) rfl).trans <|
  (l_aald (show gPG 199 35 = some (.aaload) by decide +kernel) ).trans <| bd_cg fun w2 hw2 =>
  (l_iload_n (show gPG 199 36 = some (.iload_n 2) by decide +kernel) rfl).trans <|
  (l_iald (show gPG 199 37 = some (.iaload) by decide +kernel) ).trans <| bd_cg fun x3 hx3 =>
  (l_istore_n (show gPG 199 38 = some (.istore_n 3) by decide +kernel) (ls := [.ref a, .int i1, .int i2, u3]) (show (3 : Nat) < 4 by decide) (show _ = ([.ref a, .int i1, .int i2, .int x3] : List Value) from rfl)).trans <|
  (l_aload_n (show gPG 199 39 = some (.aload_n 0) by decide +kernel) rfl jr_ref).trans <|
  (l_iload_n (show gPG 199 40 = some (.iload_n 1) by decide +kernel) rfl).trans <|
  (l_iload_n (show gPG 199 41 = some (.iload_n 2) by decide +kernel) rfl).trans <|
  l_callV (u := 1) (v := .ref a) (as := [.int i1, .int i2]) (show gPG 199 42 = some (jinvI 1 307) by decide +kernel) (by decide) (cc := 200) (na := 3) (kd := 13) (q4 := 0) (z := 10) (rest := []) (by decide +kernel) (by decide +kernel)  rfl (show (3 : Nat) ≤ 3 by decide) rfl cs0 (by decide +kernel) (cai (cai (cav jr_ref ca0)))
theorem b199_45 (d : Nat) (μ : jM) (u0 : Value) (u1 : Value) (u2 : Value) (i3 : Int32) : jR d 199 45 [u0, u1, u2, .int i3] [] μ = some (some (.int i3), μ) :=
  (l_iload_n (show gPG 199 45 = some (.iload_n 3) by decide +kernel) rfl).trans <|
  l_iret1 (show gPG 199 46 = some (.ireturn) by decide +kernel) (by decide +kernel)
-- Ref.closes
theorem b200_0 (d : Nat) (μ : jM) (a : Nat) (i1 : Int32) (i2 : Int32) : jR d 200 0 [.ref a, .int i1, .int i2, .retAddr 0] [] μ = jR d 200 4 [.ref a, .int i1, .int i2, .int (i2 + 1)] [] μ :=
  (l_iload_n (show gPG 200 0 = some (.iload_n 2) by decide +kernel) rfl).trans <|
  (l_iconst (show gPG 200 1 = some (.iconst 1) by decide +kernel) (c := 1) (by decide +kernel)).trans <|
  (l_iadd (show gPG 200 2 = some (.iadd) by decide +kernel) ).trans <|
  l_istore_n (show gPG 200 3 = some (.istore_n 3) by decide +kernel) (ls := [.ref a, .int i1, .int i2, .retAddr 0]) (show (3 : Nat) < 4 by decide) (show _ = ([.ref a, .int i1, .int i2, .int (i2 + 1)] : List Value) from rfl)
theorem b200_4 (d : Nat) (μ : jM) (a : Nat) (i1 : Int32) (u2 : Value) (i3 : Int32) : jR (d + 1) 200 4 [.ref a, .int i1, u2, .int i3] [] μ = (jgR μ 13 0 (.ref a)).bind fun w1 => (jaI μ w1 i1).bind fun x2 => (if i3 < x2 then (if jrecv μ 13 (.ref a) = true then (jC d 196 [.ref a, .int i1, .int i3, .int i1, .int (i3 - 1)] μ).bind fun p6 => jR (d + 1) 200 24 [.ref a, .int i1, u2, .int i3] (p6.1.toList ++ []) p6.2 else none) else (jgR μ 13 0 (.ref a)).bind fun w3 => (jaI μ w3 i1).bind fun x4 => (jsI μ w3 i1 (x4 - 1)).bind fun m5 => some (none, m5)) :=
  (l_iload_n (show gPG 200 4 = some (.iload_n 3) by decide +kernel) rfl).trans <|
  (l_aload_n (show gPG 200 5 = some (.aload_n 0) by decide +kernel) rfl jr_ref).trans <|
  (l_gR (show gPG 200 6 = some (.getfield 11) by decide +kernel) (kd := 13) (sl := 0) (tc := 1) (fin := 1) (z := 0) (by decide +kernel) (by decide +kernel) (by decide +kernel)).trans <| bd_cg fun w1 hw1 =>
  (l_iload_n (show gPG 200 9 = some (.iload_n 1) by decide +kernel) rfl).trans <|
  (l_iald (show gPG 200 10 = some (.iaload) by decide +kernel) ).trans <| bd_cg fun x2 hx2 =>
  (l_cmp (show gPG 200 11 = some (.if_icmp .ge 19) by decide +kernel) (t := 30) (by decide +kernel)).trans <| jm_ge.trans <| ite_cg (
  (l_aload_n (show gPG 200 14 = some (.aload_n 0) by decide +kernel) rfl jr_ref).trans <|
  (l_iload_n (show gPG 200 15 = some (.iload_n 1) by decide +kernel) rfl).trans <|
  (l_iload_n (show gPG 200 16 = some (.iload_n 3) by decide +kernel) rfl).trans <|
  (l_iload_n (show gPG 200 17 = some (.iload_n 1) by decide +kernel) rfl).trans <|
  (l_iload_n (show gPG 200 18 = some (.iload_n 3) by decide +kernel) rfl).trans <|
  (l_iconst (show gPG 200 19 = some (.iconst 1) by decide +kernel) (c := 1) (by decide +kernel)).trans <|
  (l_isub (show gPG 200 20 = some (.isub) by decide +kernel) ).trans <|
  l_callV (u := 1) (v := .ref a) (as := [.int i1, .int i3, .int i1, .int (i3 - 1)]) (show gPG 200 21 = some (jinvI 1 140) by decide +kernel) (by decide) (cc := 196) (na := 5) (kd := 13) (q4 := 0) (z := 10) (rest := []) (by decide +kernel) (by decide +kernel)  rfl (show (5 : Nat) ≤ 5 by decide) rfl cs0 (by decide +kernel) (cai (cai (cai (cai (cav jr_ref ca0)))))) (
  (l_aload_n (show gPG 200 30 = some (.aload_n 0) by decide +kernel) rfl jr_ref).trans <|
  (l_gR (show gPG 200 31 = some (.getfield 11) by decide +kernel) (kd := 13) (sl := 0) (tc := 1) (fin := 1) (z := 0) (by decide +kernel) (by decide +kernel) (by decide +kernel)).trans <| bd_cg fun w3 hw3 =>
  (l_iload_n (show gPG 200 34 = some (.iload_n 1) by decide +kernel) rfl).trans <|
  (l_dup2 (show gPG 200 35 = some (.dup2) by decide +kernel) rfl (jr_cat1 (jr_gR hw3))).trans <|
  (l_iald (show gPG 200 36 = some (.iaload) by decide +kernel) ).trans <| bd_cg fun x4 hx4 =>
  (l_iconst (show gPG 200 37 = some (.iconst 1) by decide +kernel) (c := 1) (by decide +kernel)).trans <|
  (l_isub (show gPG 200 38 = some (.isub) by decide +kernel) ).trans <|
  (l_iast (show gPG 200 39 = some (.iastore) by decide +kernel) ).trans <| bd_cg fun m5 hm5 =>
  l_ret (show gPG 200 40 = some (.return_) by decide +kernel) (by decide +kernel))
theorem b200_24 (d : Nat) (μ : jM) (a : Nat) (i1 : Int32) (u2 : Value) (i3 : Int32) : jR d 200 24 [.ref a, .int i1, u2, .int i3] [] μ = jR d 200 4 [.ref a, .int i1, u2, .int (i3 + 1)] [] μ :=
  (l_iinc (show gPG 200 24 = some (.iinc 3 1) by decide +kernel) (c := 1) (by decide +kernel) rfl (show _ = ([.ref a, .int i1, u2, .int (i3 + 1)] : List Value) from rfl)).trans <|
  l_goto (show gPG 200 27 = some (.goto (-23)) by decide +kernel) (t := 4) (by decide +kernel)
-- Ref.move
theorem b201_0 (d : Nat) (μ : jM) (a : Nat) (i1 : Int32) (i2 : Int32) (i3 : Int32) : jR (d + 1) 201 0 [.ref a, .int i1, .int i2, .int i3, .retAddr 0, .retAddr 0] [] μ = (jC d 168 [.int i1] μ).bind fun p1 => jR (d + 1) 201 4 [.ref a, .int i1, .int i2, .int i3, .retAddr 0, .retAddr 0] (p1.1.toList ++ []) p1.2 :=
  (l_iload_n (show gPG 201 0 = some (.iload_n 1) by decide +kernel) rfl).trans <|
  l_callS (u := 2) (as := [.int i1]) (show gPG 201 1 = some (jinvI 2 282) by decide +kernel) (by decide) (cc := 168) (na := 1) (q4 := 0) (z := 12) (rest := []) (by decide +kernel) (by decide +kernel)  rfl (show (1 : Nat) ≤ 1 by decide) rfl cs0 (by decide +kernel) (cai ca0) (fun e => absurd e (by decide))
theorem b201_4 (d : Nat) (μ : jM) (a : Nat) (i1 : Int32) (i2 : Int32) (i3 : Int32) (u4 : Value) (u5 : Value) (s0 : Int32) : jR (d + 1) 201 4 [.ref a, .int i1, .int i2, .int i3, u4, u5] [.int s0] μ = (if s0 = 0 then jR (d + 1) 201 39 [.ref a, .int i1, .int i2, .int i3, u4, u5] [] μ else (jgR μ 13 0 (.ref a)).bind fun w1 => (jaI μ w1 i1).bind fun x2 => (jC d 165 [.int i2, .int 0, .int (x2 - 1)] μ).bind fun p3 => jR (d + 1) 201 20 [.ref a, .int i1, .int i2, .int i3, u4, u5] (p3.1.toList ++ []) p3.2) :=
  (l_cmp0 (show gPG 201 4 = some (.ifCond .eq 35) by decide +kernel) (t := 39) (by decide +kernel)).trans <| jm_eq.trans <| ite_cg (
  rfl) (
  (l_iload_n (show gPG 201 7 = some (.iload_n 2) by decide +kernel) rfl).trans <|
  (l_iconst (show gPG 201 8 = some (.iconst 0) by decide +kernel) (c := 0) (by decide +kernel)).trans <|
  (l_aload_n (show gPG 201 9 = some (.aload_n 0) by decide +kernel) rfl jr_ref).trans <|
  (l_gR (show gPG 201 10 = some (.getfield 11) by decide +kernel) (kd := 13) (sl := 0) (tc := 1) (fin := 1) (z := 0) (by decide +kernel) (by decide +kernel) (by decide +kernel)).trans <| bd_cg fun w1 hw1 =>
  (l_iload_n (show gPG 201 13 = some (.iload_n 1) by decide +kernel) rfl).trans <|
  (l_iald (show gPG 201 14 = some (.iaload) by decide +kernel) ).trans <| bd_cg fun x2 hx2 =>
  (l_iconst (show gPG 201 15 = some (.iconst 1) by decide +kernel) (c := 1) (by decide +kernel)).trans <|
  (l_isub (show gPG 201 16 = some (.isub) by decide +kernel) ).trans <|
  l_callS (u := 2) (as := [.int i2, .int 0, .int (x2 - 1)]) (show gPG 201 17 = some (jinvI 2 125) by decide +kernel) (by decide) (cc := 165) (na := 3) (q4 := 0) (z := 12) (rest := []) (by decide +kernel) (by decide +kernel)  rfl (show (3 : Nat) ≤ 3 by decide) rfl cs0 (by decide +kernel) (cai (cai (cai ca0))) (fun e => absurd e (by decide)))
theorem b201_20 (d : Nat) (μ : jM) (a : Nat) (i1 : Int32) (i2 : Int32) (i3 : Int32) (u4 : Value) (u5 : Value) (s0 : Int32) : jR (d + 1) 201 20 [.ref a, .int i1, .int i2, .int i3, u4, u5] [.int s0] μ = (if s0 = 0 then jR (d + 1) 201 39 [.ref a, .int i1, .int i2, .int i3, u4, u5] [] μ else (jgR μ 13 0 (.ref a)).bind fun w1 => (jaI μ w1 i1).bind fun x2 => (jC d 165 [.int i3, .int 0, .int (x2 - 1)] μ).bind fun p3 => jR (d + 1) 201 36 [.ref a, .int i1, .int i2, .int i3, u4, u5] (p3.1.toList ++ []) p3.2) :=
  (l_cmp0 (show gPG 201 20 = some (.ifCond .eq 19) by decide +kernel) (t := 39) (by decide +kernel)).trans <| jm_eq.trans <| ite_cg (
  rfl) (
  (l_iload_n (show gPG 201 23 = some (.iload_n 3) by decide +kernel) rfl).trans <|
  (l_iconst (show gPG 201 24 = some (.iconst 0) by decide +kernel) (c := 0) (by decide +kernel)).trans <|
  (l_aload_n (show gPG 201 25 = some (.aload_n 0) by decide +kernel) rfl jr_ref).trans <|
  (l_gR (show gPG 201 26 = some (.getfield 11) by decide +kernel) (kd := 13) (sl := 0) (tc := 1) (fin := 1) (z := 0) (by decide +kernel) (by decide +kernel) (by decide +kernel)).trans <| bd_cg fun w1 hw1 =>
  (l_iload_n (show gPG 201 29 = some (.iload_n 1) by decide +kernel) rfl).trans <|
  (l_iald (show gPG 201 30 = some (.iaload) by decide +kernel) ).trans <| bd_cg fun x2 hx2 =>
  (l_iconst (show gPG 201 31 = some (.iconst 1) by decide +kernel) (c := 1) (by decide +kernel)).trans <|
  (l_isub (show gPG 201 32 = some (.isub) by decide +kernel) ).trans <|
  l_callS (u := 2) (as := [.int i3, .int 0, .int (x2 - 1)]) (show gPG 201 33 = some (jinvI 2 125) by decide +kernel) (by decide) (cc := 165) (na := 3) (q4 := 0) (z := 12) (rest := []) (by decide +kernel) (by decide +kernel)  rfl (show (3 : Nat) ≤ 3 by decide) rfl cs0 (by decide +kernel) (cai (cai (cai ca0))) (fun e => absurd e (by decide)))
theorem b201_36 (d : Nat) (μ : jM) (a : Nat) (i1 : Int32) (i2 : Int32) (i3 : Int32) (u4 : Value) (u5 : Value) (s0 : Int32) : jR (d + 1) 201 36 [.ref a, .int i1, .int i2, .int i3, u4, u5] [.int s0] μ = (if s0 = 0 then jR (d + 1) 201 39 [.ref a, .int i1, .int i2, .int i3, u4, u5] [] μ else (if jrecv μ 13 (.ref a) = true then (jC d 189 [.ref a] μ).bind fun p1 => jR (d + 1) 201 46 [.ref a, .int i1, .int i2, .int i3, u4, u5] (p1.1.toList ++ []) p1.2 else none)) :=
  (l_cmp0 (show gPG 201 36 = some (.ifCond .ne 6) by decide +kernel) (t := 42) (by decide +kernel)).trans <| jm_ne.trans <| ite_cg (
  rfl) (
  (l_aload_n (show gPG 201 42 = some (.aload_n 0) by decide +kernel) rfl jr_ref).trans <|
  l_callV (u := 1) (v := .ref a) (as := []) (show gPG 201 43 = some (jinvI 1 291) by decide +kernel) (by decide) (cc := 189) (na := 1) (kd := 13) (q4 := 0) (z := 10) (rest := []) (by decide +kernel) (by decide +kernel)  rfl (show (1 : Nat) ≤ 1 by decide) rfl cs0 (by decide +kernel) (cav jr_ref ca0))
theorem b201_39 (d : Nat) (μ : jM) (u0 : Value) (u1 : Value) (u2 : Value) (u3 : Value) (u4 : Value) (u5 : Value) : jR d 201 39 [u0, u1, u2, u3, u4, u5] [] μ = some (some (.int (-2)), μ) :=
  (l_bipush (show gPG 201 39 = some (.bipush (-2)) by decide +kernel) (c := (-2)) (by decide +kernel)).trans <|
  l_iret1 (show gPG 201 41 = some (.ireturn) by decide +kernel) (by decide +kernel)
theorem b201_46 (d : Nat) (μ : jM) (a : Nat) (i1 : Int32) (i2 : Int32) (i3 : Int32) (u4 : Value) (u5 : Value) : jR d 201 46 [.ref a, .int i1, .int i2, .int i3, u4, u5] [] μ = (if i2 < i3 then jR d 201 56 [.ref a, .int i1, .int i2, .int i3, u4, u5] [.int 1] μ else jR d 201 56 [.ref a, .int i1, .int i2, .int i3, u4, u5] [.int (-1)] μ) :=
  (l_iload_n (show gPG 201 46 = some (.iload_n 2) by decide +kernel) rfl).trans <|
  (l_iload_n (show gPG 201 47 = some (.iload_n 3) by decide +kernel) rfl).trans <|
  (l_cmp (show gPG 201 48 = some (.if_icmp .ge 7) by decide +kernel) (t := 55) (by decide +kernel)).trans <| jm_ge.trans <| ite_cg (
  (l_iconst (show gPG 201 51 = some (.iconst 1) by decide +kernel) (c := 1) (by decide +kernel)).trans <|
  l_goto (show gPG 201 52 = some (.goto 4) by decide +kernel) (t := 56) (by decide +kernel)) (
  l_iconst (show gPG 201 55 = some (.iconst (-1)) by decide +kernel) (c := (-1)) (by decide +kernel))
theorem b201_56 (d : Nat) (μ : jM) (a : Nat) (i1 : Int32) (i2 : Int32) (i3 : Int32) (u4 : Value) (u5 : Value) (s0 : Int32) : jR d 201 56 [.ref a, .int i1, .int i2, .int i3, u4, u5] [.int s0] μ = jR d 201 61 [.ref a, .int i1, .int i2, .int i3, .int s0, .int i2] [] μ :=
  (l_istore (show gPG 201 56 = some (.istore 4) by decide +kernel) (ls := [.ref a, .int i1, .int i2, .int i3, u4, u5]) (show (4 : Nat) < 6 by decide) (show _ = ([.ref a, .int i1, .int i2, .int i3, .int s0, u5] : List Value) from rfl)).trans <|
  (l_iload_n (show gPG 201 58 = some (.iload_n 2) by decide +kernel) rfl).trans <|
  l_istore (show gPG 201 59 = some (.istore 5) by decide +kernel) (ls := [.ref a, .int i1, .int i2, .int i3, .int s0, u5]) (show (5 : Nat) < 6 by decide) (show _ = ([.ref a, .int i1, .int i2, .int i3, .int s0, .int i2] : List Value) from rfl)
theorem b201_61 (d : Nat) (μ : jM) (a : Nat) (i1 : Int32) (u2 : Value) (i3 : Int32) (i4 : Int32) (i5 : Int32) : jR (d + 1) 201 61 [.ref a, .int i1, u2, .int i3, .int i4, .int i5] [] μ = (if i5 = i3 then (jgR μ 13 1 (.ref a)).bind fun w1 => (jaR μ w1 i1).bind fun w2 => (jaI μ w2 i3).bind fun x3 => some (some (.int x3), μ) else (if jrecv μ 13 (.ref a) = true then (jC d 202 [.ref a, .int i1, .int i5, .int (i5 + i4)] μ).bind fun p4 => jR (d + 1) 201 79 [.ref a, .int i1, u2, .int i3, .int i4, .int i5] (p4.1.toList ++ []) p4.2 else none)) :=
  (l_iload (show gPG 201 61 = some (.iload 5) by decide +kernel) rfl).trans <|
  (l_iload_n (show gPG 201 63 = some (.iload_n 3) by decide +kernel) rfl).trans <|
  (l_cmp (show gPG 201 64 = some (.if_icmp .eq 25) by decide +kernel) (t := 89) (by decide +kernel)).trans <| jm_eq.trans <| ite_cg (
  (l_aload_n (show gPG 201 89 = some (.aload_n 0) by decide +kernel) rfl jr_ref).trans <|
  (l_gR (show gPG 201 90 = some (.getfield 17) by decide +kernel) (kd := 13) (sl := 1) (tc := 1) (fin := 1) (z := 0) (by decide +kernel) (by decide +kernel) (by decide +kernel)).trans <| bd_cg fun w1 hw1 =>
  (l_iload_n (show gPG 201 93 = some (.iload_n 1) by decide +kernel) rfl).trans <|
  (l_aald (show gPG 201 94 = some (.aaload) by decide +kernel) ).trans <| bd_cg fun w2 hw2 =>
  (l_iload_n (show gPG 201 95 = some (.iload_n 3) by decide +kernel) rfl).trans <|
  (l_iald (show gPG 201 96 = some (.iaload) by decide +kernel) ).trans <| bd_cg fun x3 hx3 =>
  l_iret1 (show gPG 201 97 = some (.ireturn) by decide +kernel) (by decide +kernel)) (
  (l_aload_n (show gPG 201 67 = some (.aload_n 0) by decide +kernel) rfl jr_ref).trans <|
  (l_iload_n (show gPG 201 68 = some (.iload_n 1) by decide +kernel) rfl).trans <|
  (l_iload (show gPG 201 69 = some (.iload 5) by decide +kernel) rfl).trans <|
  (l_iload (show gPG 201 71 = some (.iload 5) by decide +kernel) rfl).trans <|
  (l_iload (show gPG 201 73 = some (.iload 4) by decide +kernel) rfl).trans <|
  (l_iadd (show gPG 201 75 = some (.iadd) by decide +kernel) ).trans <|
  l_callV (u := 1) (v := .ref a) (as := [.int i1, .int i5, .int (i5 + i4)]) (show gPG 201 76 = some (jinvI 1 310) by decide +kernel) (by decide) (cc := 202) (na := 4) (kd := 13) (q4 := 0) (z := 10) (rest := []) (by decide +kernel) (by decide +kernel)  rfl (show (4 : Nat) ≤ 4 by decide) rfl cs0 (by decide +kernel) (cai (cai (cai (cav jr_ref ca0)))))
theorem b201_79 (d : Nat) (μ : jM) (a : Nat) (i1 : Int32) (u2 : Value) (i3 : Int32) (i4 : Int32) (i5 : Int32) : jR d 201 79 [.ref a, .int i1, u2, .int i3, .int i4, .int i5] [] μ = jR d 201 61 [.ref a, .int i1, u2, .int i3, .int i4, .int (i5 + i4)] [] μ :=
  (l_iload (show gPG 201 79 = some (.iload 5) by decide +kernel) rfl).trans <|
  (l_iload (show gPG 201 81 = some (.iload 4) by decide +kernel) rfl).trans <|
  (l_iadd (show gPG 201 83 = some (.iadd) by decide +kernel) ).trans <|
  (l_istore (show gPG 201 84 = some (.istore 5) by decide +kernel) (ls := [.ref a, .int i1, u2, .int i3, .int i4, .int i5]) (show (5 : Nat) < 6 by decide) (show _ = ([.ref a, .int i1, u2, .int i3, .int i4, .int (i5 + i4)] : List Value) from rfl)).trans <|
  l_goto (show gPG 201 86 = some (.goto (-25)) by decide +kernel) (t := 61) (by decide +kernel)
-- Ref.swapRows
theorem b202_0 (d : Nat) (μ : jM) (a : Nat) (i1 : Int32) (i2 : Int32) (i3 : Int32) : jR d 202 0 [.ref a, .int i1, .int i2, .int i3, .retAddr 0, .retAddr 0, .retAddr 0, .retAddr 0, .retAddr 0, .retAddr 0, .retAddr 0, .retAddr 0] [] μ = (jgR μ 13 1 (.ref a)).bind fun w1 => (jaR μ w1 i1).bind fun w2 => (jaI μ w2 i2).bind fun x3 => (jgR μ 13 1 (.ref a)).bind fun w4 => (jaR μ w4 i1).bind fun w5 => (jgR μ 13 1 (.ref a)).bind fun w6 => (jaR μ w6 i1).bind fun w7 => (jaI μ w7 i3).bind fun x8 => (jsI μ w5 i2 x8).bind fun m9 => (jgR m9 13 1 (.ref a)).bind fun w10 => (jaR m9 w10 i1).bind fun w11 => (jsI m9 w11 i3 x3).bind fun m12 => jR d 202 39 [.ref a, .int i1, .int i2, .int i3, .int x3, .int 0, .retAddr 0, .retAddr 0, .retAddr 0, .retAddr 0, .retAddr 0, .retAddr 0] [] m12 :=
  (l_aload_n (show gPG 202 0 = some (.aload_n 0) by decide +kernel) rfl jr_ref).trans <|
  (l_gR (show gPG 202 1 = some (.getfield 17) by decide +kernel) (kd := 13) (sl := 1) (tc := 1) (fin := 1) (z := 0) (by decide +kernel) (by decide +kernel) (by decide +kernel)).trans <| bd_cg fun w1 hw1 =>
  (l_iload_n (show gPG 202 4 = some (.iload_n 1) by decide +kernel) rfl).trans <|
  (l_aald (show gPG 202 5 = some (.aaload) by decide +kernel) ).trans <| bd_cg fun w2 hw2 =>
  (l_iload_n (show gPG 202 6 = some (.iload_n 2) by decide +kernel) rfl).trans <|
  (l_iald (show gPG 202 7 = some (.iaload) by decide +kernel) ).trans <| bd_cg fun x3 hx3 =>
  (l_istore (show gPG 202 8 = some (.istore 4) by decide +kernel) (ls := [.ref a, .int i1, .int i2, .int i3, .retAddr 0, .retAddr 0, .retAddr 0, .retAddr 0, .retAddr 0, .retAddr 0, .retAddr 0, .retAddr 0]) (show (4 : Nat) < 12 by decide) (show _ = ([.ref a, .int i1, .int i2, .int i3, .int x3, .retAddr 0, .retAddr 0, .retAddr 0, .retAddr 0, .retAddr 0, .retAddr 0, .retAddr 0] : List Value) from rfl)).trans <|
  (l_aload_n (show gPG 202 10 = some (.aload_n 0) by decide +kernel) rfl jr_ref).trans <|
  (l_gR (show gPG 202 11 = some (.getfield 17) by decide +kernel) (kd := 13) (sl := 1) (tc := 1) (fin := 1) (z := 0) (by decide +kernel) (by decide +kernel) (by decide +kernel)).trans <| bd_cg fun w4 hw4 =>
  (l_iload_n (show gPG 202 14 = some (.iload_n 1) by decide +kernel) rfl).trans <|
  (l_aald (show gPG 202 15 = some (.aaload) by decide +kernel) ).trans <| bd_cg fun w5 hw5 =>
  (l_iload_n (show gPG 202 16 = some (.iload_n 2) by decide +kernel) rfl).trans <|
  (l_aload_n (show gPG 202 17 = some (.aload_n 0) by decide +kernel) rfl jr_ref).trans <|
  (l_gR (show gPG 202 18 = some (.getfield 17) by decide +kernel) (kd := 13) (sl := 1) (tc := 1) (fin := 1) (z := 0) (by decide +kernel) (by decide +kernel) (by decide +kernel)).trans <| bd_cg fun w6 hw6 =>
  (l_iload_n (show gPG 202 21 = some (.iload_n 1) by decide +kernel) rfl).trans <|
  (l_aald (show gPG 202 22 = some (.aaload) by decide +kernel) ).trans <| bd_cg fun w7 hw7 =>
  (l_iload_n (show gPG 202 23 = some (.iload_n 3) by decide +kernel) rfl).trans <|
  (l_iald (show gPG 202 24 = some (.iaload) by decide +kernel) ).trans <| bd_cg fun x8 hx8 =>
  (l_iast (show gPG 202 25 = some (.iastore) by decide +kernel) ).trans <| bd_cg fun m9 hm9 =>
  (l_aload_n (show gPG 202 26 = some (.aload_n 0) by decide +kernel) rfl jr_ref).trans <|
  (l_gR (show gPG 202 27 = some (.getfield 17) by decide +kernel) (kd := 13) (sl := 1) (tc := 1) (fin := 1) (z := 0) (by decide +kernel) (by decide +kernel) (by decide +kernel)).trans <| bd_cg fun w10 hw10 =>
  (l_iload_n (show gPG 202 30 = some (.iload_n 1) by decide +kernel) rfl).trans <|
  (l_aald (show gPG 202 31 = some (.aaload) by decide +kernel) ).trans <| bd_cg fun w11 hw11 =>
  (l_iload_n (show gPG 202 32 = some (.iload_n 3) by decide +kernel) rfl).trans <|
  (l_iload (show gPG 202 33 = some (.iload 4) by decide +kernel) rfl).trans <|
  (l_iast (show gPG 202 35 = some (.iastore) by decide +kernel) ).trans <| bd_cg fun m12 hm12 =>
  (l_iconst (show gPG 202 36 = some (.iconst 0) by decide +kernel) (c := 0) (by decide +kernel)).trans <|
  l_istore (show gPG 202 37 = some (.istore 5) by decide +kernel) (ls := [.ref a, .int i1, .int i2, .int i3, .int x3, .retAddr 0, .retAddr 0, .retAddr 0, .retAddr 0, .retAddr 0, .retAddr 0, .retAddr 0]) (show (5 : Nat) < 12 by decide) (show _ = ([.ref a, .int i1, .int i2, .int i3, .int x3, .int 0, .retAddr 0, .retAddr 0, .retAddr 0, .retAddr 0, .retAddr 0, .retAddr 0] : List Value) from rfl)
theorem b202_39 (d : Nat) (μ : jM) (a : Nat) (i1 : Int32) (i2 : Int32) (i3 : Int32) (u4 : Value) (i5 : Int32) (u6 : Value) (u7 : Value) (u8 : Value) (u9 : Value) (u10 : Value) (u11 : Value) : jR (d + 1) 202 39 [.ref a, .int i1, .int i2, .int i3, u4, .int i5, u6, u7, u8, u9, u10, u11] [] μ = (if i5 < 3 then (jgR μ 13 2 (.ref a)).bind fun w1 => (jaR μ w1 i1).bind fun w2 => (jaI μ w2 ((3 * i2) + i5)).bind fun x3 => (jgR μ 13 3 (.ref a)).bind fun w4 => (jaR μ w4 i1).bind fun w5 => (jaI μ w5 ((3 * i2) + i5)).bind fun x6 => (jgR μ 13 4 (.ref a)).bind fun w7 => (jaR μ w7 i1).bind fun w8 => (jaI μ w8 ((3 * i2) + i5)).bind fun x9 => (jgR μ 13 5 (.ref a)).bind fun w10 => (jaR μ w10 i1).bind fun w11 => (jaR μ w11 ((3 * i2) + i5)).bind fun w12 => (if jrecv μ 13 (.ref a) = true then (jC d 197 [.ref a, .int i1, .int ((3 * i3) + i5), .int i1, .int ((3 * i2) + i5)] μ).bind fun p13 => jR (d + 1) 202 115 [.ref a, .int i1, .int i2, .int i3, u4, .int i5, .int ((3 * i2) + i5), .int ((3 * i3) + i5), .int x3, .int x6, .int x9, w12] (p13.1.toList ++ []) p13.2 else none) else some (none, μ)) :=
  (l_iload (show gPG 202 39 = some (.iload 5) by decide +kernel) rfl).trans <|
  (l_iconst (show gPG 202 41 = some (.iconst 3) by decide +kernel) (c := 3) (by decide +kernel)).trans <|
  (l_cmp (show gPG 202 42 = some (.if_icmp .ge 123) by decide +kernel) (t := 165) (by decide +kernel)).trans <| jm_ge.trans <| ite_cg (
  (l_iconst (show gPG 202 45 = some (.iconst 3) by decide +kernel) (c := 3) (by decide +kernel)).trans <|
  (l_iload_n (show gPG 202 46 = some (.iload_n 2) by decide +kernel) rfl).trans <|
  (l_imul (show gPG 202 47 = some (.imul) by decide +kernel) ).trans <|
  (l_iload (show gPG 202 48 = some (.iload 5) by decide +kernel) rfl).trans <|
  (l_iadd (show gPG 202 50 = some (.iadd) by decide +kernel) ).trans <|
  (l_istore (show gPG 202 51 = some (.istore 6) by decide +kernel) (ls := [.ref a, .int i1, .int i2, .int i3, u4, .int i5, u6, u7, u8, u9, u10, u11]) (show (6 : Nat) < 12 by decide) (show _ = ([.ref a, .int i1, .int i2, .int i3, u4, .int i5, .int ((3 * i2) + i5), u7, u8, u9, u10, u11] : List Value) from rfl)).trans <|
  (l_iconst (show gPG 202 53 = some (.iconst 3) by decide +kernel) (c := 3) (by decide +kernel)).trans <|
  (l_iload_n (show gPG 202 54 = some (.iload_n 3) by decide +kernel) rfl).trans <|
  (l_imul (show gPG 202 55 = some (.imul) by decide +kernel) ).trans <|
  (l_iload (show gPG 202 56 = some (.iload 5) by decide +kernel) rfl).trans <|
  (l_iadd (show gPG 202 58 = some (.iadd) by decide +kernel) ).trans <|
  (l_istore (show gPG 202 59 = some (.istore 7) by decide +kernel) (ls := [.ref a, .int i1, .int i2, .int i3, u4, .int i5, .int ((3 * i2) + i5), u7, u8, u9, u10, u11]) (show (7 : Nat) < 12 by decide) (show _ = ([.ref a, .int i1, .int i2, .int i3, u4, .int i5, .int ((3 * i2) + i5), .int ((3 * i3) + i5), u8, u9, u10, u11] : List Value) from rfl)).trans <|
  (l_aload_n (show gPG 202 61 = some (.aload_n 0) by decide +kernel) rfl jr_ref).trans <|
  (l_gR (show gPG 202 62 = some (.getfield 20) by decide +kernel) (kd := 13) (sl := 2) (tc := 1) (fin := 1) (z := 0) (by decide +kernel) (by decide +kernel) (by decide +kernel)).trans <| bd_cg fun w1 hw1 =>
  (l_iload_n (show gPG 202 65 = some (.iload_n 1) by decide +kernel) rfl).trans <|
  (l_aald (show gPG 202 66 = some (.aaload) by decide +kernel) ).trans <| bd_cg fun w2 hw2 =>
  (l_iload (show gPG 202 67 = some (.iload 6) by decide +kernel) rfl).trans <|
  (l_iald (show gPG 202 69 = some (.iaload) by decide +kernel) ).trans <| bd_cg fun x3 hx3 =>
  (l_istore (show gPG 202 70 = some (.istore 8) by decide +kernel) (ls := [.ref a, .int i1, .int i2, .int i3, u4, .int i5, .int ((3 * i2) + i5), .int ((3 * i3) + i5), u8, u9, u10, u11]) (show (8 : Nat) < 12 by decide) (show _ = ([.ref a, .int i1, .int i2, .int i3, u4, .int i5, .int ((3 * i2) + i5), .int ((3 * i3) + i5), .int x3, u9, u10, u11] : List Value) from rfl)).trans <|
  (l_aload_n (show gPG 202 72 = some (.aload_n 0) by decide +kernel) rfl jr_ref).trans <|
  (l_gR (show gPG 202 73 = some (.getfield 23) by decide +kernel) (kd := 13) (sl := 3) (tc := 1) (fin := 1) (z := 0) (by decide +kernel) (by decide +kernel) (by decide +kernel)).trans <| bd_cg fun w4 hw4 =>
  (l_iload_n (show gPG 202 76 = some (.iload_n 1) by decide +kernel) rfl).trans <|
  (l_aald (show gPG 202 77 = some (.aaload) by decide +kernel) ).trans <| bd_cg fun w5 hw5 =>
  (l_iload (show gPG 202 78 = some (.iload 6) by decide +kernel) rfl).trans <|
  (l_iald (show gPG 202 80 = some (.iaload) by decide +kernel) ).trans <| bd_cg fun x6 hx6 =>
  (l_istore (show gPG 202 81 = some (.istore 9) by decide +kernel) (ls := [.ref a, .int i1, .int i2, .int i3, u4, .int i5, .int ((3 * i2) + i5), .int ((3 * i3) + i5), .int x3, u9, u10, u11]) (show (9 : Nat) < 12 by decide) (show _ = ([.ref a, .int i1, .int i2, .int i3, u4, .int i5, .int ((3 * i2) + i5), .int ((3 * i3) + i5), .int x3, .int x6, u10, u11] : List Value) from rfl)).trans <|
  (l_aload_n (show gPG 202 83 = some (.aload_n 0) by decide +kernel) rfl jr_ref).trans <|
  (l_gR (show gPG 202 84 = some (.getfield 26) by decide +kernel) (kd := 13) (sl := 4) (tc := 1) (fin := 1) (z := 0) (by decide +kernel) (by decide +kernel) (by decide +kernel)).trans <| bd_cg fun w7 hw7 =>
  (l_iload_n (show gPG 202 87 = some (.iload_n 1) by decide +kernel) rfl).trans <|
  (l_aald (show gPG 202 88 = some (.aaload) by decide +kernel) ).trans <| bd_cg fun w8 hw8 =>
  (l_iload (show gPG 202 89 = some (.iload 6) by decide +kernel) rfl).trans <|
  (l_iald (show gPG 202 91 = some (.iaload) by decide +kernel) ).trans <| bd_cg fun x9 hx9 =>
  (l_istore (show gPG 202 92 = some (.istore 10) by decide +kernel) (ls := [.ref a, .int i1, .int i2, .int i3, u4, .int i5, .int ((3 * i2) + i5), .int ((3 * i3) + i5), .int x3, .int x6, u10, u11]) (show (10 : Nat) < 12 by decide) (show _ = ([.ref a, .int i1, .int i2, .int i3, u4, .int i5, .int ((3 * i2) + i5), .int ((3 * i3) + i5), .int x3, .int x6, .int x9, u11] : List Value) from rfl)).trans <|
  (l_aload_n (show gPG 202 94 = some (.aload_n 0) by decide +kernel) rfl jr_ref).trans <|
  (l_gR (show gPG 202 95 = some (.getfield 31) by decide +kernel) (kd := 13) (sl := 5) (tc := 1) (fin := 1) (z := 0) (by decide +kernel) (by decide +kernel) (by decide +kernel)).trans <| bd_cg fun w10 hw10 =>
  (l_iload_n (show gPG 202 98 = some (.iload_n 1) by decide +kernel) rfl).trans <|
  (l_aald (show gPG 202 99 = some (.aaload) by decide +kernel) ).trans <| bd_cg fun w11 hw11 =>
  (l_iload (show gPG 202 100 = some (.iload 6) by decide +kernel) rfl).trans <|
  (l_aald (show gPG 202 102 = some (.aaload) by decide +kernel) ).trans <| bd_cg fun w12 hw12 =>
  (l_astore (show gPG 202 103 = some (.astore 11) by decide +kernel) (ls := [.ref a, .int i1, .int i2, .int i3, u4, .int i5, .int ((3 * i2) + i5), .int ((3 * i3) + i5), .int x3, .int x6, .int x9, u11]) (jr_aR hw12) (show (11 : Nat) < 12 by decide) (show _ = ([.ref a, .int i1, .int i2, .int i3, u4, .int i5, .int ((3 * i2) + i5), .int ((3 * i3) + i5), .int x3, .int x6, .int x9, w12] : List Value) from rfl)).trans <|
  (l_aload_n (show gPG 202 105 = some (.aload_n 0) by decide +kernel) rfl jr_ref).trans <|
  (l_iload_n (show gPG 202 106 = some (.iload_n 1) by decide +kernel) rfl).trans <|
  (l_iload (show gPG 202 107 = some (.iload 7) by decide +kernel) rfl).trans <|
  (l_iload_n (show gPG 202 109 = some (.iload_n 1) by decide +kernel) rfl).trans <|
  (l_iload (show gPG 202 110 = some (.iload 6) by decide +kernel) rfl).trans <|
  l_callV (u := 1) (v := .ref a) (as := [.int i1, .int ((3 * i3) + i5), .int i1, .int ((3 * i2) + i5)]) (show gPG 202 112 = some (jinvI 1 136) by decide +kernel) (by decide) (cc := 197) (na := 5) (kd := 13) (q4 := 0) (z := 10) (rest := []) (by decide +kernel) (by decide +kernel)  rfl (show (5 : Nat) ≤ 5 by decide) rfl cs0 (by decide +kernel) (cai (cai (cai (cai (cav jr_ref ca0)))))) (
  l_ret (show gPG 202 165 = some (.return_) by decide +kernel) (by decide +kernel))
theorem b202_115 (d : Nat) (μ : jM) (a : Nat) (i1 : Int32) (i2 : Int32) (i3 : Int32) (u4 : Value) (i5 : Int32) (u6 : Value) (i7 : Int32) (i8 : Int32) (i9 : Int32) (i10 : Int32) (r11 : Value) (h11 : jisref r11 = true) : jR d 202 115 [.ref a, .int i1, .int i2, .int i3, u4, .int i5, u6, .int i7, .int i8, .int i9, .int i10, r11] [] μ = (jgR μ 13 2 (.ref a)).bind fun w1 => (jaR μ w1 i1).bind fun w2 => (jsI μ w2 i7 i8).bind fun m3 => (jgR m3 13 3 (.ref a)).bind fun w4 => (jaR m3 w4 i1).bind fun w5 => (jsI m3 w5 i7 i9).bind fun m6 => (jgR m6 13 4 (.ref a)).bind fun w7 => (jaR m6 w7 i1).bind fun w8 => (jsI m6 w8 i7 i10).bind fun m9 => (jgR m9 13 5 (.ref a)).bind fun w10 => (jaR m9 w10 i1).bind fun w11 => (jsR m9 w11 i7 r11).bind fun m12 => jR d 202 39 [.ref a, .int i1, .int i2, .int i3, u4, .int (i5 + 1), u6, .int i7, .int i8, .int i9, .int i10, r11] [] m12 :=
  (l_aload_n (show gPG 202 115 = some (.aload_n 0) by decide +kernel) rfl jr_ref).trans <|
  (l_gR (show gPG 202 116 = some (.getfield 20) by decide +kernel) (kd := 13) (sl := 2) (tc := 1) (fin := 1) (z := 0) (by decide +kernel) (by decide +kernel) (by decide +kernel)).trans <| bd_cg fun w1 hw1 =>
  (l_iload_n (show gPG 202 119 = some (.iload_n 1) by decide +kernel) rfl).trans <|
  (l_aald (show gPG 202 120 = some (.aaload) by decide +kernel) ).trans <| bd_cg fun w2 hw2 =>
  (l_iload (show gPG 202 121 = some (.iload 7) by decide +kernel) rfl).trans <|
  (l_iload (show gPG 202 123 = some (.iload 8) by decide +kernel) rfl).trans <|
  (l_iast (show gPG 202 125 = some (.iastore) by decide +kernel) ).trans <| bd_cg fun m3 hm3 =>
  (l_aload_n (show gPG 202 126 = some (.aload_n 0) by decide +kernel) rfl jr_ref).trans <|
  (l_gR (show gPG 202 127 = some (.getfield 23) by decide +kernel) (kd := 13) (sl := 3) (tc := 1) (fin := 1) (z := 0) (by decide +kernel) (by decide +kernel) (by decide +kernel)).trans <| bd_cg fun w4 hw4 =>
  (l_iload_n (show gPG 202 130 = some (.iload_n 1) by decide +kernel) rfl).trans <|
  (l_aald (show gPG 202 131 = some (.aaload) by decide +kernel) ).trans <| bd_cg fun w5 hw5 =>
  (l_iload (show gPG 202 132 = some (.iload 7) by decide +kernel) rfl).trans <|
  (l_iload (show gPG 202 134 = some (.iload 9) by decide +kernel) rfl).trans <|
  (l_iast (show gPG 202 136 = some (.iastore) by decide +kernel) ).trans <| bd_cg fun m6 hm6 =>
  (l_aload_n (show gPG 202 137 = some (.aload_n 0) by decide +kernel) rfl jr_ref).trans <|
  (l_gR (show gPG 202 138 = some (.getfield 26) by decide +kernel) (kd := 13) (sl := 4) (tc := 1) (fin := 1) (z := 0) (by decide +kernel) (by decide +kernel) (by decide +kernel)).trans <| bd_cg fun w7 hw7 =>
  (l_iload_n (show gPG 202 141 = some (.iload_n 1) by decide +kernel) rfl).trans <|
  (l_aald (show gPG 202 142 = some (.aaload) by decide +kernel) ).trans <| bd_cg fun w8 hw8 =>
  (l_iload (show gPG 202 143 = some (.iload 7) by decide +kernel) rfl).trans <|
  (l_iload (show gPG 202 145 = some (.iload 10) by decide +kernel) rfl).trans <|
  (l_iast (show gPG 202 147 = some (.iastore) by decide +kernel) ).trans <| bd_cg fun m9 hm9 =>
  (l_aload_n (show gPG 202 148 = some (.aload_n 0) by decide +kernel) rfl jr_ref).trans <|
  (l_gR (show gPG 202 149 = some (.getfield 31) by decide +kernel) (kd := 13) (sl := 5) (tc := 1) (fin := 1) (z := 0) (by decide +kernel) (by decide +kernel) (by decide +kernel)).trans <| bd_cg fun w10 hw10 =>
  (l_iload_n (show gPG 202 152 = some (.iload_n 1) by decide +kernel) rfl).trans <|
  (l_aald (show gPG 202 153 = some (.aaload) by decide +kernel) ).trans <| bd_cg fun w11 hw11 =>
  (l_iload (show gPG 202 154 = some (.iload 7) by decide +kernel) rfl).trans <|
  (l_aload (show gPG 202 156 = some (.aload 11) by decide +kernel) rfl h11).trans <|
  (l_aast (show gPG 202 158 = some (.aastore) by decide +kernel) ).trans <| bd_cg fun m12 hm12 =>
  (l_iinc (show gPG 202 159 = some (.iinc 5 1) by decide +kernel) (c := 1) (by decide +kernel) rfl (show _ = ([.ref a, .int i1, .int i2, .int i3, u4, .int (i5 + 1), u6, .int i7, .int i8, .int i9, .int i10, r11] : List Value) from rfl)).trans <|
  l_goto (show gPG 202 162 = some (.goto (-123)) by decide +kernel) (t := 39) (by decide +kernel)
-- Ref.note
theorem b203_0 (d : Nat) (μ : jM) (a : Nat) (i1 : Int32) (i2 : Int32) (i3 : Int32) (i4 : Int32) : jR (d + 1) 203 0 [.ref a, .int i1, .int i2, .int i3, .int i4, .retAddr 0] [] μ = (jC d 168 [.int i1] μ).bind fun p1 => jR (d + 1) 203 4 [.ref a, .int i1, .int i2, .int i3, .int i4, .retAddr 0] (p1.1.toList ++ []) p1.2 :=
  (l_iload_n (show gPG 203 0 = some (.iload_n 1) by decide +kernel) rfl).trans <|
  l_callS (u := 2) (as := [.int i1]) (show gPG 203 1 = some (jinvI 2 282) by decide +kernel) (by decide) (cc := 168) (na := 1) (q4 := 0) (z := 12) (rest := []) (by decide +kernel) (by decide +kernel)  rfl (show (1 : Nat) ≤ 1 by decide) rfl cs0 (by decide +kernel) (cai ca0) (fun e => absurd e (by decide))
theorem b203_4 (d : Nat) (μ : jM) (a : Nat) (i1 : Int32) (i2 : Int32) (i3 : Int32) (i4 : Int32) (u5 : Value) (s0 : Int32) : jR (d + 1) 203 4 [.ref a, .int i1, .int i2, .int i3, .int i4, u5] [.int s0] μ = (if s0 = 0 then jR (d + 1) 203 28 [.ref a, .int i1, .int i2, .int i3, .int i4, u5] [] μ else (if jrecv μ 13 (.ref a) = true then (jC d 169 [.ref a, .int i1, .int i2, .int i3] μ).bind fun p1 => jR (d + 1) 203 14 [.ref a, .int i1, .int i2, .int i3, .int i4, u5] (p1.1.toList ++ []) p1.2 else none)) :=
  (l_cmp0 (show gPG 203 4 = some (.ifCond .eq 24) by decide +kernel) (t := 28) (by decide +kernel)).trans <| jm_eq.trans <| ite_cg (
  rfl) (
  (l_aload_n (show gPG 203 7 = some (.aload_n 0) by decide +kernel) rfl jr_ref).trans <|
  (l_iload_n (show gPG 203 8 = some (.iload_n 1) by decide +kernel) rfl).trans <|
  (l_iload_n (show gPG 203 9 = some (.iload_n 2) by decide +kernel) rfl).trans <|
  (l_iload_n (show gPG 203 10 = some (.iload_n 3) by decide +kernel) rfl).trans <|
  l_callV (u := 1) (v := .ref a) (as := [.int i1, .int i2, .int i3]) (show gPG 203 11 = some (jinvI 1 285) by decide +kernel) (by decide) (cc := 169) (na := 4) (kd := 13) (q4 := 0) (z := 10) (rest := []) (by decide +kernel) (by decide +kernel)  rfl (show (4 : Nat) ≤ 4 by decide) rfl cs0 (by decide +kernel) (cai (cai (cai (cav jr_ref ca0)))))
theorem b203_14 (d : Nat) (μ : jM) (a : Nat) (i1 : Int32) (i2 : Int32) (i3 : Int32) (i4 : Int32) (u5 : Value) (s0 : Int32) : jR (d + 1) 203 14 [.ref a, .int i1, .int i2, .int i3, .int i4, u5] [.int s0] μ = (if s0 = 0 then jR (d + 1) 203 28 [.ref a, .int i1, .int i2, .int i3, .int i4, u5] [] μ else (jC d 165 [.int i4, .int 0, .int 99] μ).bind fun p1 => jR (d + 1) 203 25 [.ref a, .int i1, .int i2, .int i3, .int i4, u5] (p1.1.toList ++ []) p1.2) :=
  (l_cmp0 (show gPG 203 14 = some (.ifCond .eq 14) by decide +kernel) (t := 28) (by decide +kernel)).trans <| jm_eq.trans <| ite_cg (
  rfl) (
  (l_iload (show gPG 203 17 = some (.iload 4) by decide +kernel) rfl).trans <|
  (l_iconst (show gPG 203 19 = some (.iconst 0) by decide +kernel) (c := 0) (by decide +kernel)).trans <|
  (l_bipush (show gPG 203 20 = some (.bipush 99) by decide +kernel) (c := 99) (by decide +kernel)).trans <|
  l_callS (u := 2) (as := [.int i4, .int 0, .int 99]) (show gPG 203 22 = some (jinvI 2 125) by decide +kernel) (by decide) (cc := 165) (na := 3) (q4 := 0) (z := 12) (rest := []) (by decide +kernel) (by decide +kernel)  rfl (show (3 : Nat) ≤ 3 by decide) rfl cs0 (by decide +kernel) (cai (cai (cai ca0))) (fun e => absurd e (by decide)))
theorem b203_25 (d : Nat) (μ : jM) (a : Nat) (i1 : Int32) (i2 : Int32) (i3 : Int32) (i4 : Int32) (u5 : Value) (s0 : Int32) : jR (d + 1) 203 25 [.ref a, .int i1, .int i2, .int i3, .int i4, u5] [.int s0] μ = (if s0 = 0 then jR (d + 1) 203 28 [.ref a, .int i1, .int i2, .int i3, .int i4, u5] [] μ else (if jrecv μ 13 (.ref a) = true then (jC d 189 [.ref a] μ).bind fun p1 => jR (d + 1) 203 35 [.ref a, .int i1, .int i2, .int i3, .int i4, u5] (p1.1.toList ++ []) p1.2 else none)) :=
  (l_cmp0 (show gPG 203 25 = some (.ifCond .ne 6) by decide +kernel) (t := 31) (by decide +kernel)).trans <| jm_ne.trans <| ite_cg (
  rfl) (
  (l_aload_n (show gPG 203 31 = some (.aload_n 0) by decide +kernel) rfl jr_ref).trans <|
  l_callV (u := 1) (v := .ref a) (as := []) (show gPG 203 32 = some (jinvI 1 291) by decide +kernel) (by decide) (cc := 189) (na := 1) (kd := 13) (q4 := 0) (z := 10) (rest := []) (by decide +kernel) (by decide +kernel)  rfl (show (1 : Nat) ≤ 1 by decide) rfl cs0 (by decide +kernel) (cav jr_ref ca0))
theorem b203_28 (d : Nat) (μ : jM) (u0 : Value) (u1 : Value) (u2 : Value) (u3 : Value) (u4 : Value) (u5 : Value) : jR d 203 28 [u0, u1, u2, u3, u4, u5] [] μ = some (some (.int (-2)), μ) :=
  (l_bipush (show gPG 203 28 = some (.bipush (-2)) by decide +kernel) (c := (-2)) (by decide +kernel)).trans <|
  l_iret1 (show gPG 203 30 = some (.ireturn) by decide +kernel) (by decide +kernel)
theorem b203_35 (d : Nat) (μ : jM) (a : Nat) (i1 : Int32) (i2 : Int32) (i3 : Int32) (i4 : Int32) (u5 : Value) : jR d 203 35 [.ref a, .int i1, .int i2, .int i3, .int i4, u5] [] μ = (jgR μ 13 4 (.ref a)).bind fun w1 => (jaR μ w1 i1).bind fun w2 => (jaI μ w2 ((3 * i2) + i3)).bind fun x3 => (jgR μ 13 4 (.ref a)).bind fun w4 => (jaR μ w4 i1).bind fun w5 => (jsI μ w5 ((3 * i2) + i3) i4).bind fun m6 => some (some (.int x3), m6) :=
  (l_aload_n (show gPG 203 35 = some (.aload_n 0) by decide +kernel) rfl jr_ref).trans <|
  (l_gR (show gPG 203 36 = some (.getfield 26) by decide +kernel) (kd := 13) (sl := 4) (tc := 1) (fin := 1) (z := 0) (by decide +kernel) (by decide +kernel) (by decide +kernel)).trans <| bd_cg fun w1 hw1 =>
  (l_iload_n (show gPG 203 39 = some (.iload_n 1) by decide +kernel) rfl).trans <|
  (l_aald (show gPG 203 40 = some (.aaload) by decide +kernel) ).trans <| bd_cg fun w2 hw2 =>
  (l_iconst (show gPG 203 41 = some (.iconst 3) by decide +kernel) (c := 3) (by decide +kernel)).trans <|
  (l_iload_n (show gPG 203 42 = some (.iload_n 2) by decide +kernel) rfl).trans <|
  (l_imul (show gPG 203 43 = some (.imul) by decide +kernel) ).trans <|
  (l_iload_n (show gPG 203 44 = some (.iload_n 3) by decide +kernel) rfl).trans <|
  (l_iadd (show gPG 203 45 = some (.iadd) by decide +kernel) ).trans <|
  (l_iald (show gPG 203 46 = some (.iaload) by decide +kernel) ).trans <| bd_cg fun x3 hx3 =>
  (l_istore (show gPG 203 47 = some (.istore 5) by decide +kernel) (ls := [.ref a, .int i1, .int i2, .int i3, .int i4, u5]) (show (5 : Nat) < 6 by decide) (show _ = ([.ref a, .int i1, .int i2, .int i3, .int i4, .int x3] : List Value) from rfl)).trans <|
  (l_aload_n (show gPG 203 49 = some (.aload_n 0) by decide +kernel) rfl jr_ref).trans <|
  (l_gR (show gPG 203 50 = some (.getfield 26) by decide +kernel) (kd := 13) (sl := 4) (tc := 1) (fin := 1) (z := 0) (by decide +kernel) (by decide +kernel) (by decide +kernel)).trans <| bd_cg fun w4 hw4 =>
  (l_iload_n (show gPG 203 53 = some (.iload_n 1) by decide +kernel) rfl).trans <|
  (l_aald (show gPG 203 54 = some (.aaload) by decide +kernel) ).trans <| bd_cg fun w5 hw5 =>
  (l_iconst (show gPG 203 55 = some (.iconst 3) by decide +kernel) (c := 3) (by decide +kernel)).trans <|
  (l_iload_n (show gPG 203 56 = some (.iload_n 2) by decide +kernel) rfl).trans <|
  (l_imul (show gPG 203 57 = some (.imul) by decide +kernel) ).trans <|
  (l_iload_n (show gPG 203 58 = some (.iload_n 3) by decide +kernel) rfl).trans <|
  (l_iadd (show gPG 203 59 = some (.iadd) by decide +kernel) ).trans <|
  (l_iload (show gPG 203 60 = some (.iload 4) by decide +kernel) rfl).trans <|
  (l_iast (show gPG 203 62 = some (.iastore) by decide +kernel) ).trans <| bd_cg fun m6 hm6 =>
  (l_iload (show gPG 203 63 = some (.iload 5) by decide +kernel) rfl).trans <|
  l_iret1 (show gPG 203 65 = some (.ireturn) by decide +kernel) (by decide +kernel)
-- Ref.fill
theorem b204_0 (d : Nat) (μ : jM) (a : Nat) (i1 : Int32) (i2 : Int32) (i3 : Int32) (i4 : Int32) : jR (d + 1) 204 0 [.ref a, .int i1, .int i2, .int i3, .int i4, .retAddr 0, .retAddr 0, .retAddr 0] [] μ = (jC d 168 [.int i1] μ).bind fun p1 => jR (d + 1) 204 4 [.ref a, .int i1, .int i2, .int i3, .int i4, .retAddr 0, .retAddr 0, .retAddr 0] (p1.1.toList ++ []) p1.2 :=
  (l_iload_n (show gPG 204 0 = some (.iload_n 1) by decide +kernel) rfl).trans <|
  l_callS (u := 2) (as := [.int i1]) (show gPG 204 1 = some (jinvI 2 282) by decide +kernel) (by decide) (cc := 168) (na := 1) (q4 := 0) (z := 12) (rest := []) (by decide +kernel) (by decide +kernel)  rfl (show (1 : Nat) ≤ 1 by decide) rfl cs0 (by decide +kernel) (cai ca0) (fun e => absurd e (by decide))
theorem b204_4 (d : Nat) (μ : jM) (a : Nat) (i1 : Int32) (i2 : Int32) (i3 : Int32) (i4 : Int32) (u5 : Value) (u6 : Value) (u7 : Value) (s0 : Int32) : jR (d + 1) 204 4 [.ref a, .int i1, .int i2, .int i3, .int i4, u5, u6, u7] [.int s0] μ = (if s0 = 0 then jR (d + 1) 204 28 [.ref a, .int i1, .int i2, .int i3, .int i4, u5, u6, u7] [] μ else (if jrecv μ 13 (.ref a) = true then (jC d 169 [.ref a, .int i1, .int i2, .int i3] μ).bind fun p1 => jR (d + 1) 204 14 [.ref a, .int i1, .int i2, .int i3, .int i4, u5, u6, u7] (p1.1.toList ++ []) p1.2 else none)) :=
  (l_cmp0 (show gPG 204 4 = some (.ifCond .eq 24) by decide +kernel) (t := 28) (by decide +kernel)).trans <| jm_eq.trans <| ite_cg (
  rfl) (
  (l_aload_n (show gPG 204 7 = some (.aload_n 0) by decide +kernel) rfl jr_ref).trans <|
  (l_iload_n (show gPG 204 8 = some (.iload_n 1) by decide +kernel) rfl).trans <|
  (l_iload_n (show gPG 204 9 = some (.iload_n 2) by decide +kernel) rfl).trans <|
  (l_iload_n (show gPG 204 10 = some (.iload_n 3) by decide +kernel) rfl).trans <|
  l_callV (u := 1) (v := .ref a) (as := [.int i1, .int i2, .int i3]) (show gPG 204 11 = some (jinvI 1 285) by decide +kernel) (by decide) (cc := 169) (na := 4) (kd := 13) (q4 := 0) (z := 10) (rest := []) (by decide +kernel) (by decide +kernel)  rfl (show (4 : Nat) ≤ 4 by decide) rfl cs0 (by decide +kernel) (cai (cai (cai (cav jr_ref ca0)))))
theorem b204_14 (d : Nat) (μ : jM) (a : Nat) (i1 : Int32) (i2 : Int32) (i3 : Int32) (i4 : Int32) (u5 : Value) (u6 : Value) (u7 : Value) (s0 : Int32) : jR (d + 1) 204 14 [.ref a, .int i1, .int i2, .int i3, .int i4, u5, u6, u7] [.int s0] μ = (if s0 = 0 then jR (d + 1) 204 28 [.ref a, .int i1, .int i2, .int i3, .int i4, u5, u6, u7] [] μ else (jC d 165 [.int i4, .int 1, .int 7] μ).bind fun p1 => jR (d + 1) 204 25 [.ref a, .int i1, .int i2, .int i3, .int i4, u5, u6, u7] (p1.1.toList ++ []) p1.2) :=
  (l_cmp0 (show gPG 204 14 = some (.ifCond .eq 14) by decide +kernel) (t := 28) (by decide +kernel)).trans <| jm_eq.trans <| ite_cg (
  rfl) (
  (l_iload (show gPG 204 17 = some (.iload 4) by decide +kernel) rfl).trans <|
  (l_iconst (show gPG 204 19 = some (.iconst 1) by decide +kernel) (c := 1) (by decide +kernel)).trans <|
  (l_bipush (show gPG 204 20 = some (.bipush 7) by decide +kernel) (c := 7) (by decide +kernel)).trans <|
  l_callS (u := 2) (as := [.int i4, .int 1, .int 7]) (show gPG 204 22 = some (jinvI 2 125) by decide +kernel) (by decide) (cc := 165) (na := 3) (q4 := 0) (z := 12) (rest := []) (by decide +kernel) (by decide +kernel)  rfl (show (3 : Nat) ≤ 3 by decide) rfl cs0 (by decide +kernel) (cai (cai (cai ca0))) (fun e => absurd e (by decide)))
theorem b204_25 (d : Nat) (μ : jM) (a : Nat) (i1 : Int32) (i2 : Int32) (i3 : Int32) (i4 : Int32) (u5 : Value) (u6 : Value) (u7 : Value) (s0 : Int32) : jR (d + 1) 204 25 [.ref a, .int i1, .int i2, .int i3, .int i4, u5, u6, u7] [.int s0] μ = (if s0 = 0 then jR (d + 1) 204 28 [.ref a, .int i1, .int i2, .int i3, .int i4, u5, u6, u7] [] μ else (if jrecv μ 13 (.ref a) = true then (jC d 189 [.ref a] μ).bind fun p1 => jR (d + 1) 204 35 [.ref a, .int i1, .int i2, .int i3, .int i4, u5, u6, u7] (p1.1.toList ++ []) p1.2 else none)) :=
  (l_cmp0 (show gPG 204 25 = some (.ifCond .ne 6) by decide +kernel) (t := 31) (by decide +kernel)).trans <| jm_ne.trans <| ite_cg (
  rfl) (
  (l_aload_n (show gPG 204 31 = some (.aload_n 0) by decide +kernel) rfl jr_ref).trans <|
  l_callV (u := 1) (v := .ref a) (as := []) (show gPG 204 32 = some (jinvI 1 291) by decide +kernel) (by decide) (cc := 189) (na := 1) (kd := 13) (q4 := 0) (z := 10) (rest := []) (by decide +kernel) (by decide +kernel)  rfl (show (1 : Nat) ≤ 1 by decide) rfl cs0 (by decide +kernel) (cav jr_ref ca0))
theorem b204_28 (d : Nat) (μ : jM) (u0 : Value) (u1 : Value) (u2 : Value) (u3 : Value) (u4 : Value) (u5 : Value) (u6 : Value) (u7 : Value) : jR d 204 28 [u0, u1, u2, u3, u4, u5, u6, u7] [] μ = some (some (.int (-2)), μ) :=
  (l_bipush (show gPG 204 28 = some (.bipush (-2)) by decide +kernel) (c := (-2)) (by decide +kernel)).trans <|
  l_iret1 (show gPG 204 30 = some (.ireturn) by decide +kernel) (by decide +kernel)
theorem b204_35 (d : Nat) (μ : jM) (a : Nat) (i1 : Int32) (i2 : Int32) (i3 : Int32) (i4 : Int32) (u5 : Value) (u6 : Value) (u7 : Value) : jR (d + 1) 204 35 [.ref a, .int i1, .int i2, .int i3, .int i4, u5, u6, u7] [] μ = (jgR μ 13 0 (.ref a)).bind fun w1 => (jaI μ w1 i1).bind fun x2 => (jC d 279 [.int i4, .int ((x2 - 1) - i2)] μ).bind fun p3 => jR (d + 1) 204 50 [.ref a, .int i1, .int i2, .int i3, .int i4, u5, u6, u7] (p3.1.toList ++ []) p3.2 :=
  (l_iload (show gPG 204 35 = some (.iload 4) by decide +kernel) rfl).trans <|
  (l_aload_n (show gPG 204 37 = some (.aload_n 0) by decide +kernel) rfl jr_ref).trans <|
  (l_gR (show gPG 204 38 = some (.getfield 11) by decide +kernel) (kd := 13) (sl := 0) (tc := 1) (fin := 1) (z := 0) (by decide +kernel) (by decide +kernel) (by decide +kernel)).trans <| bd_cg fun w1 hw1 =>
  (l_iload_n (show gPG 204 41 = some (.iload_n 1) by decide +kernel) rfl).trans <|
  (l_iald (show gPG 204 42 = some (.iaload) by decide +kernel) ).trans <| bd_cg fun x2 hx2 =>
  (l_iconst (show gPG 204 43 = some (.iconst 1) by decide +kernel) (c := 1) (by decide +kernel)).trans <|
  (l_isub (show gPG 204 44 = some (.isub) by decide +kernel) ).trans <|
  (l_iload_n (show gPG 204 45 = some (.iload_n 2) by decide +kernel) rfl).trans <|
  (l_isub (show gPG 204 46 = some (.isub) by decide +kernel) ).trans <|
  l_callS (u := 2) (as := [.int i4, .int ((x2 - 1) - i2)]) (show gPG 204 47 = some (jinvI 2 318) by decide +kernel) (by decide) (cc := 279) (na := 2) (q4 := 0) (z := 12) (rest := []) (by decide +kernel) (by decide +kernel)  rfl (show (2 : Nat) ≤ 2 by decide) rfl cs0 (by decide +kernel) (cai (cai ca0)) (fun e => absurd e (by decide))
theorem b204_50 (d : Nat) (μ : jM) (a : Nat) (i1 : Int32) (i2 : Int32) (i3 : Int32) (u4 : Value) (u5 : Value) (u6 : Value) (u7 : Value) (s0 : Int32) : jR d 204 50 [.ref a, .int i1, .int i2, .int i3, u4, u5, u6, u7] [.int s0] μ = jR d 204 62 [.ref a, .int i1, .int i2, .int i3, u4, .int s0, .int ((3 * i2) + i3), .int 1] [] μ :=
  (l_istore (show gPG 204 50 = some (.istore 5) by decide +kernel) (ls := [.ref a, .int i1, .int i2, .int i3, u4, u5, u6, u7]) (show (5 : Nat) < 8 by decide) (show _ = ([.ref a, .int i1, .int i2, .int i3, u4, .int s0, u6, u7] : List Value) from rfl)).trans <|
  (l_iconst (show gPG 204 52 = some (.iconst 3) by decide +kernel) (c := 3) (by decide +kernel)).trans <|
  (l_iload_n (show gPG 204 53 = some (.iload_n 2) by decide +kernel) rfl).trans <|
  (l_imul (show gPG 204 54 = some (.imul) by decide +kernel) ).trans <|
  (l_iload_n (show gPG 204 55 = some (.iload_n 3) by decide +kernel) rfl).trans <|
  (l_iadd (show gPG 204 56 = some (.iadd) by decide +kernel) ).trans <|
  (l_istore (show gPG 204 57 = some (.istore 6) by decide +kernel) (ls := [.ref a, .int i1, .int i2, .int i3, u4, .int s0, u6, u7]) (show (6 : Nat) < 8 by decide) (show _ = ([.ref a, .int i1, .int i2, .int i3, u4, .int s0, .int ((3 * i2) + i3), u7] : List Value) from rfl)).trans <|
  (l_iconst (show gPG 204 59 = some (.iconst 1) by decide +kernel) (c := 1) (by decide +kernel)).trans <|
  l_istore (show gPG 204 60 = some (.istore 7) by decide +kernel) (ls := [.ref a, .int i1, .int i2, .int i3, u4, .int s0, .int ((3 * i2) + i3), u7]) (show (7 : Nat) < 8 by decide) (show _ = ([.ref a, .int i1, .int i2, .int i3, u4, .int s0, .int ((3 * i2) + i3), .int 1] : List Value) from rfl)
theorem b204_62 (d : Nat) (μ : jM) (a : Nat) (i1 : Int32) (u2 : Value) (u3 : Value) (u4 : Value) (i5 : Int32) (i6 : Int32) (i7 : Int32) : jR (d + 1) 204 62 [.ref a, .int i1, u2, u3, u4, .int i5, .int i6, .int i7] [] μ = (if i5 < i7 then some (some (.int i5), μ) else (jgR μ 13 2 (.ref a)).bind fun w1 => (jaR μ w1 i1).bind fun w2 => (jaI μ w2 i6).bind fun x3 => (jgR μ 13 3 (.ref a)).bind fun w4 => (jaR μ w4 i1).bind fun w5 => (jaI μ w5 i6).bind fun x6 => (jgR μ 13 2 (.ref a)).bind fun w7 => (jaR μ w7 i1).bind fun w8 => (jaI μ w8 i6).bind fun x9 => (if x9 = 2 then (jgR μ 13 5 (.ref a)).bind fun w10 => (jaR μ w10 i1).bind fun w11 => (jaR μ w11 i6).bind fun w12 => (if jrecv μ 13 (.ref a) = true then (jC d 205 [.ref a, .int i1, w12, .int i7] μ).bind fun p13 => jR (d + 1) 204 125 [.ref a, .int i1, u2, u3, u4, .int i5, .int i6, .int i7] (p13.1.toList ++ [.int x6, .int x3, .int (i6 + (3 * i7)), .int i1, .ref a]) p13.2 else none) else jR (d + 1) 204 129 [.ref a, .int i1, u2, u3, u4, .int i5, .int i6, .int i7] [.null, .int x6, .int x3, .int (i6 + (3 * i7)), .int i1, .ref a] μ)) :=
  (l_iload (show gPG 204 62 = some (.iload 7) by decide +kernel) rfl).trans <|
  (l_iload (show gPG 204 64 = some (.iload 5) by decide +kernel) rfl).trans <|
  (l_cmp (show gPG 204 66 = some (.if_icmp .gt 72) by decide +kernel) (t := 138) (by decide +kernel)).trans <| jm_gt.trans <| ite_cg (
  (l_iload (show gPG 204 138 = some (.iload 5) by decide +kernel) rfl).trans <|
  l_iret1 (show gPG 204 140 = some (.ireturn) by decide +kernel) (by decide +kernel)) (
  (l_aload_n (show gPG 204 69 = some (.aload_n 0) by decide +kernel) rfl jr_ref).trans <|
  (l_iload_n (show gPG 204 70 = some (.iload_n 1) by decide +kernel) rfl).trans <|
  (l_iload (show gPG 204 71 = some (.iload 6) by decide +kernel) rfl).trans <|
  (l_iconst (show gPG 204 73 = some (.iconst 3) by decide +kernel) (c := 3) (by decide +kernel)).trans <|
  (l_iload (show gPG 204 74 = some (.iload 7) by decide +kernel) rfl).trans <|
  (l_imul (show gPG 204 76 = some (.imul) by decide +kernel) ).trans <|
  (l_iadd (show gPG 204 77 = some (.iadd) by decide +kernel) ).trans <|
  (l_aload_n (show gPG 204 78 = some (.aload_n 0) by decide +kernel) rfl jr_ref).trans <|
  (l_gR (show gPG 204 79 = some (.getfield 20) by decide +kernel) (kd := 13) (sl := 2) (tc := 1) (fin := 1) (z := 0) (by decide +kernel) (by decide +kernel) (by decide +kernel)).trans <| bd_cg fun w1 hw1 =>
  (l_iload_n (show gPG 204 82 = some (.iload_n 1) by decide +kernel) rfl).trans <|
  (l_aald (show gPG 204 83 = some (.aaload) by decide +kernel) ).trans <| bd_cg fun w2 hw2 =>
  (l_iload (show gPG 204 84 = some (.iload 6) by decide +kernel) rfl).trans <|
  (l_iald (show gPG 204 86 = some (.iaload) by decide +kernel) ).trans <| bd_cg fun x3 hx3 =>
  (l_aload_n (show gPG 204 87 = some (.aload_n 0) by decide +kernel) rfl jr_ref).trans <|
  (l_gR (show gPG 204 88 = some (.getfield 23) by decide +kernel) (kd := 13) (sl := 3) (tc := 1) (fin := 1) (z := 0) (by decide +kernel) (by decide +kernel) (by decide +kernel)).trans <| bd_cg fun w4 hw4 =>
  (l_iload_n (show gPG 204 91 = some (.iload_n 1) by decide +kernel) rfl).trans <|
  (l_aald (show gPG 204 92 = some (.aaload) by decide +kernel) ).trans <| bd_cg fun w5 hw5 =>
  (l_iload (show gPG 204 93 = some (.iload 6) by decide +kernel) rfl).trans <|
  (l_iald (show gPG 204 95 = some (.iaload) by decide +kernel) ).trans <| bd_cg fun x6 hx6 =>
  (l_aload_n (show gPG 204 96 = some (.aload_n 0) by decide +kernel) rfl jr_ref).trans <|
  (l_gR (show gPG 204 97 = some (.getfield 20) by decide +kernel) (kd := 13) (sl := 2) (tc := 1) (fin := 1) (z := 0) (by decide +kernel) (by decide +kernel) (by decide +kernel)).trans <| bd_cg fun w7 hw7 =>
  (l_iload_n (show gPG 204 100 = some (.iload_n 1) by decide +kernel) rfl).trans <|
  (l_aald (show gPG 204 101 = some (.aaload) by decide +kernel) ).trans <| bd_cg fun w8 hw8 =>
  (l_iload (show gPG 204 102 = some (.iload 6) by decide +kernel) rfl).trans <|
  (l_iald (show gPG 204 104 = some (.iaload) by decide +kernel) ).trans <| bd_cg fun x9 hx9 =>
  (l_iconst (show gPG 204 105 = some (.iconst 2) by decide +kernel) (c := 2) (by decide +kernel)).trans <|
  (l_cmp (show gPG 204 106 = some (.if_icmp .ne 22) by decide +kernel) (t := 128) (by decide +kernel)).trans <| jm_ne.trans <| ite_cg (
  (l_aload_n (show gPG 204 109 = some (.aload_n 0) by decide +kernel) rfl jr_ref).trans <|
  (l_iload_n (show gPG 204 110 = some (.iload_n 1) by decide +kernel) rfl).trans <|
  (l_aload_n (show gPG 204 111 = some (.aload_n 0) by decide +kernel) rfl jr_ref).trans <|
  (l_gR (show gPG 204 112 = some (.getfield 31) by decide +kernel) (kd := 13) (sl := 5) (tc := 1) (fin := 1) (z := 0) (by decide +kernel) (by decide +kernel) (by decide +kernel)).trans <| bd_cg fun w10 hw10 =>
  (l_iload_n (show gPG 204 115 = some (.iload_n 1) by decide +kernel) rfl).trans <|
  (l_aald (show gPG 204 116 = some (.aaload) by decide +kernel) ).trans <| bd_cg fun w11 hw11 =>
  (l_iload (show gPG 204 117 = some (.iload 6) by decide +kernel) rfl).trans <|
  (l_aald (show gPG 204 119 = some (.aaload) by decide +kernel) ).trans <| bd_cg fun w12 hw12 =>
  (l_iload (show gPG 204 120 = some (.iload 7) by decide +kernel) rfl).trans <|
  l_callV (u := 1) (v := .ref a) (as := [.int i1, w12, .int i7]) (show gPG 204 122 = some (jinvI 1 323) by decide +kernel) (by decide) (cc := 205) (na := 4) (kd := 13) (q4 := 0) (z := 10) (rest := [.int x6, .int x3, .int (i6 + (3 * i7)), .int i1, .ref a]) (by decide +kernel) (by decide +kernel)  rfl (show (4 : Nat) ≤ 9 by decide) rfl (csi (csi (csi (csi (csv jr_ref cs0))))) (by decide +kernel) (cai (cav (jr_aR hw12) (cai (cav jr_ref ca0))))) (
  l_anull (show gPG 204 128 = some (.aconst_null) by decide +kernel) ))
theorem b204_125 (d : Nat) (μ : jM) (a : Nat) (i1 : Int32) (u2 : Value) (u3 : Value) (u4 : Value) (i5 : Int32) (i6 : Int32) (i7 : Int32) (s0 : Value) (s1 : Int32) (s2 : Int32) (s3 : Int32) (s4 : Int32) (s5 : Value) (hs0 : jisref s0 = true) (hs5 : jisref s5 = true) : jR d 204 125 [.ref a, .int i1, u2, u3, u4, .int i5, .int i6, .int i7] [s5, .int s4, .int s3, .int s2, .int s1, s0] μ = jR d 204 129 [.ref a, .int i1, u2, u3, u4, .int i5, .int i6, .int i7] [s5, .int s4, .int s3, .int s2, .int s1, s0] μ :=
  l_goto (show gPG 204 125 = some (.goto 4) by decide +kernel) (t := 129) (by decide +kernel)
theorem b204_129 (d : Nat) (μ : jM) (a : Nat) (i1 : Int32) (u2 : Value) (u3 : Value) (u4 : Value) (i5 : Int32) (i6 : Int32) (i7 : Int32) (s0 : Value) (s1 : Int32) (s2 : Int32) (s3 : Int32) (s4 : Int32) (s5 : Value) (hs0 : jisref s0 = true) (hs5 : jisref s5 = true) : jR (d + 1) 204 129 [.ref a, .int i1, u2, u3, u4, .int i5, .int i6, .int i7] [s5, .int s4, .int s3, .int s2, .int s1, s0] μ = (if jrecv μ 13 s0 = true then (jC d 192 [s0, .int s1, .int s2, .int s3, .int s4, s5] μ).bind fun p1 => jR (d + 1) 204 132 [.ref a, .int i1, u2, u3, u4, .int i5, .int i6, .int i7] (p1.1.toList ++ []) p1.2 else none) :=
  l_callV (u := 1) (v := s0) (as := [.int s1, .int s2, .int s3, .int s4, s5]) (show gPG 204 129 = some (jinvI 1 294) by decide +kernel) (by decide) (cc := 192) (na := 6) (kd := 13) (q4 := 0) (z := 10) (rest := []) (by decide +kernel) (by decide +kernel)  rfl (show (6 : Nat) ≤ 6 by decide) rfl cs0 (by decide +kernel) (cav hs5 (cai (cai (cai (cai (cav hs0 ca0))))))
theorem b204_132 (d : Nat) (μ : jM) (a : Nat) (i1 : Int32) (u2 : Value) (u3 : Value) (u4 : Value) (i5 : Int32) (i6 : Int32) (i7 : Int32) : jR d 204 132 [.ref a, .int i1, u2, u3, u4, .int i5, .int i6, .int i7] [] μ = jR d 204 62 [.ref a, .int i1, u2, u3, u4, .int i5, .int i6, .int (i7 + 1)] [] μ :=
  (l_iinc (show gPG 204 132 = some (.iinc 7 1) by decide +kernel) (c := 1) (by decide +kernel) rfl (show _ = ([.ref a, .int i1, u2, u3, u4, .int i5, .int i6, .int (i7 + 1)] : List Value) from rfl)).trans <|
  l_goto (show gPG 204 135 = some (.goto (-73)) by decide +kernel) (t := 62) (by decide +kernel)
-- Ref.shifted
theorem b205_0 (d : Nat) (μ : jM) (a : Nat) (i1 : Int32) (r2 : Value) (i3 : Int32) (h2 : jisref r2 = true) : jR (d + 1) 205 0 [.ref a, .int i1, r2, .int i3, .retAddr 0, .retAddr 0, .retAddr 0, .retAddr 0] [] μ = (if jclk μ 20 r2 = true then (jcl μ r2).bind fun p1 => (if jck p1.2 20 p1.1 = true then jR (d + 1) 205 12 [.ref a, .int i1, r2, .int i3, p1.1, .int 0, .retAddr 0, .retAddr 0] [] p1.2 else none) else none) :=
  (l_aload_n (show gPG 205 0 = some (.aload_n 2) by decide +kernel) rfl h2).trans <|
  (l_clone (show gPG 205 1 = some (.invokevirtual 314) by decide +kernel) (q3 := 99) (q4 := 20) (z := 20) (by decide +kernel) (by decide +kernel) h2 cs0 (by decide +kernel)).trans <| ite_cg (bd_cg fun p1 hp1 =>
  (l_cast (show gPG 205 4 = some (.checkcast 106) by decide +kernel) (q1 := 0) (q2 := 0) (kd := 20) (q4 := 33) (by decide +kernel)).trans <| ite_cg (
  (l_astore (show gPG 205 7 = some (.astore 4) by decide +kernel) (ls := [.ref a, .int i1, r2, .int i3, .retAddr 0, .retAddr 0, .retAddr 0, .retAddr 0]) (jr_cl hp1) (show (4 : Nat) < 8 by decide) (show _ = ([.ref a, .int i1, r2, .int i3, p1.1, .retAddr 0, .retAddr 0, .retAddr 0] : List Value) from rfl)).trans <|
  (l_iconst (show gPG 205 9 = some (.iconst 0) by decide +kernel) (c := 0) (by decide +kernel)).trans <|
  l_istore (show gPG 205 10 = some (.istore 5) by decide +kernel) (ls := [.ref a, .int i1, r2, .int i3, p1.1, .retAddr 0, .retAddr 0, .retAddr 0]) (show (5 : Nat) < 8 by decide) (show _ = ([.ref a, .int i1, r2, .int i3, p1.1, .int 0, .retAddr 0, .retAddr 0] : List Value) from rfl)) rfl) rfl
theorem b205_12 (d : Nat) (μ : jM) (a : Nat) (i1 : Int32) (u2 : Value) (i3 : Int32) (r4 : Value) (i5 : Int32) (u6 : Value) (u7 : Value) (h4 : jisref r4 = true) : jR (d + 1) 205 12 [.ref a, .int i1, u2, .int i3, r4, .int i5, u6, u7] [] μ = (jal μ r4).bind fun x1 => (if i5 < x1 then (jaI μ r4 i5).bind fun x2 => (if x2 = 3 then (jaI μ r4 (i5 + 1)).bind fun x3 => (if (x3 / 8) = 0 then jR (d + 1) 205 60 [.ref a, .int i1, u2, .int i3, r4, .int i5, .int (x3 / 8), u7] [.int (-1)] μ else (if jrecv μ 13 (.ref a) = true then (jC d 194 [.ref a, .int i1, .int (x3 / 8)] μ).bind fun p4 => jR (d + 1) 205 60 [.ref a, .int i1, u2, .int i3, r4, .int i5, .int (x3 / 8), u7] (p4.1.toList ++ []) p4.2 else none)) else jR (d + 1) 205 135 [.ref a, .int i1, u2, .int i3, r4, .int i5, u6, u7] [] μ) else some (some r4, μ)) :=
  (l_iload (show gPG 205 12 = some (.iload 5) by decide +kernel) rfl).trans <|
  (l_aload (show gPG 205 14 = some (.aload 4) by decide +kernel) rfl h4).trans <|
  (l_alen (show gPG 205 16 = some (.arraylength) by decide +kernel) ).trans <| bd_cg fun x1 hx1 =>
  (l_cmp (show gPG 205 17 = some (.if_icmp .ge 124) by decide +kernel) (t := 141) (by decide +kernel)).trans <| jm_ge.trans <| ite_cg (
  (l_aload (show gPG 205 20 = some (.aload 4) by decide +kernel) rfl h4).trans <|
  (l_iload (show gPG 205 22 = some (.iload 5) by decide +kernel) rfl).trans <|
  (l_iald (show gPG 205 24 = some (.iaload) by decide +kernel) ).trans <| bd_cg fun x2 hx2 =>
  (l_iconst (show gPG 205 25 = some (.iconst 3) by decide +kernel) (c := 3) (by decide +kernel)).trans <|
  (l_cmp (show gPG 205 26 = some (.if_icmp .eq 6) by decide +kernel) (t := 32) (by decide +kernel)).trans <| jm_eq.trans <| ite_cg (
  (l_aload (show gPG 205 32 = some (.aload 4) by decide +kernel) rfl h4).trans <|
  (l_iload (show gPG 205 34 = some (.iload 5) by decide +kernel) rfl).trans <|
  (l_iconst (show gPG 205 36 = some (.iconst 1) by decide +kernel) (c := 1) (by decide +kernel)).trans <|
  (l_iadd (show gPG 205 37 = some (.iadd) by decide +kernel) ).trans <|
  (l_iald (show gPG 205 38 = some (.iaload) by decide +kernel) ).trans <| bd_cg fun x3 hx3 =>
  (l_bipush (show gPG 205 39 = some (.bipush 8) by decide +kernel) (c := 8) (by decide +kernel)).trans <|
  (l_idivK (show gPG 205 41 = some (.idiv) by decide +kernel) (by decide +kernel)).trans <|
  (l_istore (show gPG 205 42 = some (.istore 6) by decide +kernel) (ls := [.ref a, .int i1, u2, .int i3, r4, .int i5, u6, u7]) (show (6 : Nat) < 8 by decide) (show _ = ([.ref a, .int i1, u2, .int i3, r4, .int i5, .int (x3 / 8), u7] : List Value) from rfl)).trans <|
  (l_iload (show gPG 205 44 = some (.iload 6) by decide +kernel) rfl).trans <|
  (l_cmp0 (show gPG 205 46 = some (.ifCond .ne 7) by decide +kernel) (t := 53) (by decide +kernel)).trans <| jm_ne.trans <| ite_cg (
  (l_iconst (show gPG 205 49 = some (.iconst (-1)) by decide +kernel) (c := (-1)) (by decide +kernel)).trans <|
  l_goto (show gPG 205 50 = some (.goto 10) by decide +kernel) (t := 60) (by decide +kernel)) (
  (l_aload_n (show gPG 205 53 = some (.aload_n 0) by decide +kernel) rfl jr_ref).trans <|
  (l_iload_n (show gPG 205 54 = some (.iload_n 1) by decide +kernel) rfl).trans <|
  (l_iload (show gPG 205 55 = some (.iload 6) by decide +kernel) rfl).trans <|
  l_callV (u := 1) (v := .ref a) (as := [.int i1, .int (x3 / 8)]) (show gPG 205 57 = some (jinvI 1 301) by decide +kernel) (by decide) (cc := 194) (na := 3) (kd := 13) (q4 := 0) (z := 10) (rest := []) (by decide +kernel) (by decide +kernel)  rfl (show (3 : Nat) ≤ 3 by decide) rfl cs0 (by decide +kernel) (cai (cai (cav jr_ref ca0))))) (
  l_goto (show gPG 205 29 = some (.goto 106) by decide +kernel) (t := 135) (by decide +kernel))) (
  (l_aload (show gPG 205 141 = some (.aload 4) by decide +kernel) rfl h4).trans <|
  l_aret (show gPG 205 143 = some (.areturn) by decide +kernel) (by decide +kernel) h4)
theorem b205_60 (d : Nat) (μ : jM) (a : Nat) (i1 : Int32) (u2 : Value) (i3 : Int32) (r4 : Value) (i5 : Int32) (u6 : Value) (u7 : Value) (s0 : Int32) (h4 : jisref r4 = true) : jR (d + 1) 205 60 [.ref a, .int i1, u2, .int i3, r4, .int i5, u6, u7] [.int s0] μ = (jaI μ r4 (i5 + 1)).bind fun x1 => (if (x1 - x1 / 2 * 2) = 1 then jR (d + 1) 205 135 [.ref a, .int i1, u2, .int i3, r4, .int i5, u6, .int s0] [] μ else (if s0 = (-1) then jR (d + 1) 205 133 [.ref a, .int i1, u2, .int i3, r4, .int i5, u6, .int s0] [.int (i5 + 1), r4] μ else (jgR μ 13 0 (.ref a)).bind fun w2 => (jaI μ w2 i1).bind fun x3 => (if (s0 + i3) < x3 then (jgR μ 13 1 (.ref a)).bind fun w4 => (jaR μ w4 i1).bind fun w5 => (jaI μ w5 (s0 + i3)).bind fun x6 => (jaI μ r4 (i5 + 1)).bind fun x7 => (jC d 188 [.int x6, .int ((x7 - x7 / 8 * 8) / 2), .int 0] μ).bind fun p8 => jR (d + 1) 205 130 [.ref a, .int i1, u2, .int i3, r4, .int i5, u6, .int s0] (p8.1.toList ++ [.int (i5 + 1), r4]) p8.2 else jR (d + 1) 205 133 [.ref a, .int i1, u2, .int i3, r4, .int i5, u6, .int s0] [.int (i5 + 1), r4] μ))) :=
  (l_istore (show gPG 205 60 = some (.istore 7) by decide +kernel) (ls := [.ref a, .int i1, u2, .int i3, r4, .int i5, u6, u7]) (show (7 : Nat) < 8 by decide) (show _ = ([.ref a, .int i1, u2, .int i3, r4, .int i5, u6, .int s0] : List Value) from rfl)).trans <|
  (l_aload (show gPG 205 62 = some (.aload 4) by decide +kernel) rfl h4).trans <|
  (l_iload (show gPG 205 64 = some (.iload 5) by decide +kernel) rfl).trans <|
  (l_iconst (show gPG 205 66 = some (.iconst 1) by decide +kernel) (c := 1) (by decide +kernel)).trans <|
  (l_iadd (show gPG 205 67 = some (.iadd) by decide +kernel) ).trans <|
  (l_iald (show gPG 205 68 = some (.iaload) by decide +kernel) ).trans <| bd_cg fun x1 hx1 =>
  (l_iconst (show gPG 205 69 = some (.iconst 2) by decide +kernel) (c := 2) (by decide +kernel)).trans <|
  (l_iremK (show gPG 205 70 = some (.irem) by decide +kernel) (by decide +kernel)).trans <|
  (l_iconst (show gPG 205 71 = some (.iconst 1) by decide +kernel) (c := 1) (by decide +kernel)).trans <|
  (l_cmp (show gPG 205 72 = some (.if_icmp .ne 6) by decide +kernel) (t := 78) (by decide +kernel)).trans <| jm_ne.trans <| ite_cg (
  l_goto (show gPG 205 75 = some (.goto 60) by decide +kernel) (t := 135) (by decide +kernel)) (
  (l_aload (show gPG 205 78 = some (.aload 4) by decide +kernel) rfl h4).trans <|
  (l_iload (show gPG 205 80 = some (.iload 5) by decide +kernel) rfl).trans <|
  (l_iconst (show gPG 205 82 = some (.iconst 1) by decide +kernel) (c := 1) (by decide +kernel)).trans <|
  (l_iadd (show gPG 205 83 = some (.iadd) by decide +kernel) ).trans <|
  (l_iload (show gPG 205 84 = some (.iload 7) by decide +kernel) rfl).trans <|
  (l_iconst (show gPG 205 86 = some (.iconst (-1)) by decide +kernel) (c := (-1)) (by decide +kernel)).trans <|
  (l_cmp (show gPG 205 87 = some (.if_icmp .eq 46) by decide +kernel) (t := 133) (by decide +kernel)).trans <| jm_eq.trans <| ite_cg (
  rfl) (
  (l_iload (show gPG 205 90 = some (.iload 7) by decide +kernel) rfl).trans <|
  (l_iload_n (show gPG 205 92 = some (.iload_n 3) by decide +kernel) rfl).trans <|
  (l_iadd (show gPG 205 93 = some (.iadd) by decide +kernel) ).trans <|
  (l_aload_n (show gPG 205 94 = some (.aload_n 0) by decide +kernel) rfl jr_ref).trans <|
  (l_gR (show gPG 205 95 = some (.getfield 11) by decide +kernel) (kd := 13) (sl := 0) (tc := 1) (fin := 1) (z := 0) (by decide +kernel) (by decide +kernel) (by decide +kernel)).trans <| bd_cg fun w2 hw2 =>
  (l_iload_n (show gPG 205 98 = some (.iload_n 1) by decide +kernel) rfl).trans <|
  (l_iald (show gPG 205 99 = some (.iaload) by decide +kernel) ).trans <| bd_cg fun x3 hx3 =>
  (l_cmp (show gPG 205 100 = some (.if_icmp .ge 33) by decide +kernel) (t := 133) (by decide +kernel)).trans <| jm_ge.trans <| ite_cg (
  (l_aload_n (show gPG 205 103 = some (.aload_n 0) by decide +kernel) rfl jr_ref).trans <|
  (l_gR (show gPG 205 104 = some (.getfield 17) by decide +kernel) (kd := 13) (sl := 1) (tc := 1) (fin := 1) (z := 0) (by decide +kernel) (by decide +kernel) (by decide +kernel)).trans <| bd_cg fun w4 hw4 =>
  (l_iload_n (show gPG 205 107 = some (.iload_n 1) by decide +kernel) rfl).trans <|
  (l_aald (show gPG 205 108 = some (.aaload) by decide +kernel) ).trans <| bd_cg fun w5 hw5 =>
  (l_iload (show gPG 205 109 = some (.iload 7) by decide +kernel) rfl).trans <|
  (l_iload_n (show gPG 205 111 = some (.iload_n 3) by decide +kernel) rfl).trans <|
  (l_iadd (show gPG 205 112 = some (.iadd) by decide +kernel) ).trans <|
  (l_iald (show gPG 205 113 = some (.iaload) by decide +kernel) ).trans <| bd_cg fun x6 hx6 =>
  (l_aload (show gPG 205 114 = some (.aload 4) by decide +kernel) rfl h4).trans <|
  (l_iload (show gPG 205 116 = some (.iload 5) by decide +kernel) rfl).trans <|
  (l_iconst (show gPG 205 118 = some (.iconst 1) by decide +kernel) (c := 1) (by decide +kernel)).trans <|
  (l_iadd (show gPG 205 119 = some (.iadd) by decide +kernel) ).trans <|
  (l_iald (show gPG 205 120 = some (.iaload) by decide +kernel) ).trans <| bd_cg fun x7 hx7 =>
  (l_bipush (show gPG 205 121 = some (.bipush 8) by decide +kernel) (c := 8) (by decide +kernel)).trans <|
  (l_iremK (show gPG 205 123 = some (.irem) by decide +kernel) (by decide +kernel)).trans <|
  (l_iconst (show gPG 205 124 = some (.iconst 2) by decide +kernel) (c := 2) (by decide +kernel)).trans <|
  (l_idivK (show gPG 205 125 = some (.idiv) by decide +kernel) (by decide +kernel)).trans <|
  (l_iconst (show gPG 205 126 = some (.iconst 0) by decide +kernel) (c := 0) (by decide +kernel)).trans <|
  l_callS (u := 2) (as := [.int x6, .int ((x7 - x7 / 8 * 8) / 2), .int 0]) (show gPG 205 127 = some (jinvI 2 253) by decide +kernel) (by decide) (cc := 188) (na := 3) (q4 := 0) (z := 12) (rest := [.int (i5 + 1), r4]) (by decide +kernel) (by decide +kernel)  rfl (show (3 : Nat) ≤ 5 by decide) rfl (csi (csv h4 cs0)) (by decide +kernel) (cai (cai (cai ca0))) (fun e => absurd e (by decide))) (
  rfl)))
theorem b205_130 (d : Nat) (μ : jM) (a : Nat) (i1 : Int32) (u2 : Value) (i3 : Int32) (r4 : Value) (i5 : Int32) (u6 : Value) (u7 : Value) (s0 : Value) (s1 : Int32) (s2 : Int32) (h4 : jisref r4 = true) (hs0 : jisref s0 = true) : jR d 205 130 [.ref a, .int i1, u2, .int i3, r4, .int i5, u6, u7] [.int s2, .int s1, s0] μ = jR d 205 134 [.ref a, .int i1, u2, .int i3, r4, .int i5, u6, u7] [.int s2, .int s1, s0] μ :=
  l_goto (show gPG 205 130 = some (.goto 4) by decide +kernel) (t := 134) (by decide +kernel)
theorem b205_133 (d : Nat) (μ : jM) (a : Nat) (i1 : Int32) (u2 : Value) (i3 : Int32) (r4 : Value) (i5 : Int32) (u6 : Value) (u7 : Value) (s0 : Value) (s1 : Int32) (h4 : jisref r4 = true) (hs0 : jisref s0 = true) : jR d 205 133 [.ref a, .int i1, u2, .int i3, r4, .int i5, u6, u7] [.int s1, s0] μ = jR d 205 134 [.ref a, .int i1, u2, .int i3, r4, .int i5, u6, u7] [.int 0, .int s1, s0] μ :=
  l_iconst (show gPG 205 133 = some (.iconst 0) by decide +kernel) (c := 0) (by decide +kernel)
theorem b205_134 (d : Nat) (μ : jM) (a : Nat) (i1 : Int32) (u2 : Value) (i3 : Int32) (r4 : Value) (i5 : Int32) (u6 : Value) (u7 : Value) (s0 : Value) (s1 : Int32) (s2 : Int32) (h4 : jisref r4 = true) (hs0 : jisref s0 = true) : jR d 205 134 [.ref a, .int i1, u2, .int i3, r4, .int i5, u6, u7] [.int s2, .int s1, s0] μ = (jsI μ s0 s1 s2).bind fun m1 => jR d 205 135 [.ref a, .int i1, u2, .int i3, r4, .int i5, u6, u7] [] m1 :=
  (l_iast (show gPG 205 134 = some (.iastore) by decide +kernel) ).trans <| bd_cg fun m1 hm1 =>
  rfl
theorem b205_135 (d : Nat) (μ : jM) (a : Nat) (i1 : Int32) (u2 : Value) (i3 : Int32) (r4 : Value) (i5 : Int32) (u6 : Value) (u7 : Value) (h4 : jisref r4 = true) : jR d 205 135 [.ref a, .int i1, u2, .int i3, r4, .int i5, u6, u7] [] μ = jR d 205 12 [.ref a, .int i1, u2, .int i3, r4, .int (i5 + 2), u6, u7] [] μ :=
  (l_iinc (show gPG 205 135 = some (.iinc 5 2) by decide +kernel) (c := 2) (by decide +kernel) rfl (show _ = ([.ref a, .int i1, u2, .int i3, r4, .int (i5 + 2), u6, u7] : List Value) from rfl)).trans <|
  l_goto (show gPG 205 138 = some (.goto (-126)) by decide +kernel) (t := 12) (by decide +kernel)
-- Ref.like
theorem b206_0 (d : Nat) (μ : jM) (a : Nat) (i1 : Int32) (i2 : Int32) : jR (d + 1) 206 0 [.ref a, .int i1, .int i2] [] μ = (jC d 168 [.int i1] μ).bind fun p1 => jR (d + 1) 206 4 [.ref a, .int i1, .int i2] (p1.1.toList ++ []) p1.2 :=
  (l_iload_n (show gPG 206 0 = some (.iload_n 1) by decide +kernel) rfl).trans <|
  l_callS (u := 2) (as := [.int i1]) (show gPG 206 1 = some (jinvI 2 282) by decide +kernel) (by decide) (cc := 168) (na := 1) (q4 := 0) (z := 12) (rest := []) (by decide +kernel) (by decide +kernel)  rfl (show (1 : Nat) ≤ 1 by decide) rfl cs0 (by decide +kernel) (cai ca0) (fun e => absurd e (by decide))
theorem b206_4 (d : Nat) (μ : jM) (a : Nat) (i1 : Int32) (i2 : Int32) (s0 : Int32) : jR (d + 1) 206 4 [.ref a, .int i1, .int i2] [.int s0] μ = (if s0 = 0 then jR (d + 1) 206 19 [.ref a, .int i1, .int i2] [] μ else (jC d 170 [.int i2] μ).bind fun p1 => jR (d + 1) 206 11 [.ref a, .int i1, .int i2] (p1.1.toList ++ []) p1.2) :=
  (l_cmp0 (show gPG 206 4 = some (.ifCond .eq 15) by decide +kernel) (t := 19) (by decide +kernel)).trans <| jm_eq.trans <| ite_cg (
  rfl) (
  (l_iload_n (show gPG 206 7 = some (.iload_n 2) by decide +kernel) rfl).trans <|
  l_callS (u := 2) (as := [.int i2]) (show gPG 206 8 = some (jinvI 2 129) by decide +kernel) (by decide) (cc := 170) (na := 1) (q4 := 0) (z := 12) (rest := []) (by decide +kernel) (by decide +kernel)  rfl (show (1 : Nat) ≤ 1 by decide) rfl cs0 (by decide +kernel) (cai ca0) (fun e => absurd e (by decide)))
theorem b206_11 (d : Nat) (μ : jM) (a : Nat) (i1 : Int32) (i2 : Int32) (s0 : Int32) : jR (d + 1) 206 11 [.ref a, .int i1, .int i2] [.int s0] μ = (if s0 = 0 then jR (d + 1) 206 19 [.ref a, .int i1, .int i2] [] μ else (if i1 = i2 then jR (d + 1) 206 19 [.ref a, .int i1, .int i2] [] μ else (if jrecv μ 13 (.ref a) = true then (jC d 189 [.ref a] μ).bind fun p1 => jR (d + 1) 206 26 [.ref a, .int i1, .int i2] (p1.1.toList ++ []) p1.2 else none))) :=
  (l_cmp0 (show gPG 206 11 = some (.ifCond .eq 8) by decide +kernel) (t := 19) (by decide +kernel)).trans <| jm_eq.trans <| ite_cg (
  rfl) (
  (l_iload_n (show gPG 206 14 = some (.iload_n 1) by decide +kernel) rfl).trans <|
  (l_iload_n (show gPG 206 15 = some (.iload_n 2) by decide +kernel) rfl).trans <|
  (l_cmp (show gPG 206 16 = some (.if_icmp .ne 6) by decide +kernel) (t := 22) (by decide +kernel)).trans <| jm_ne.trans <| ite_cg (
  rfl) (
  (l_aload_n (show gPG 206 22 = some (.aload_n 0) by decide +kernel) rfl jr_ref).trans <|
  l_callV (u := 1) (v := .ref a) (as := []) (show gPG 206 23 = some (jinvI 1 291) by decide +kernel) (by decide) (cc := 189) (na := 1) (kd := 13) (q4 := 0) (z := 10) (rest := []) (by decide +kernel) (by decide +kernel)  rfl (show (1 : Nat) ≤ 1 by decide) rfl cs0 (by decide +kernel) (cav jr_ref ca0)))
theorem b206_19 (d : Nat) (μ : jM) (u0 : Value) (u1 : Value) (u2 : Value) : jR d 206 19 [u0, u1, u2] [] μ = some (some (.int (-2)), μ) :=
  (l_bipush (show gPG 206 19 = some (.bipush (-2)) by decide +kernel) (c := (-2)) (by decide +kernel)).trans <|
  l_iret1 (show gPG 206 21 = some (.ireturn) by decide +kernel) (by decide +kernel)
theorem b206_26 (d : Nat) (μ : jM) (a : Nat) (i1 : Int32) (i2 : Int32) : jR (d + 1) 206 26 [.ref a, .int i1, .int i2] [] μ = (if jrecv μ 13 (.ref a) = true then (jC d 207 [.ref a, .int i2, .int i1] μ).bind fun p1 => jR (d + 1) 206 32 [.ref a, .int i1, .int i2] (p1.1.toList ++ []) p1.2 else none) :=
  (l_aload_n (show gPG 206 26 = some (.aload_n 0) by decide +kernel) rfl jr_ref).trans <|
  (l_iload_n (show gPG 206 27 = some (.iload_n 2) by decide +kernel) rfl).trans <|
  (l_iload_n (show gPG 206 28 = some (.iload_n 1) by decide +kernel) rfl).trans <|
  l_callV (u := 1) (v := .ref a) (as := [.int i2, .int i1]) (show gPG 206 29 = some (jinvI 1 327) by decide +kernel) (by decide) (cc := 207) (na := 3) (kd := 13) (q4 := 0) (z := 10) (rest := []) (by decide +kernel) (by decide +kernel)  rfl (show (3 : Nat) ≤ 3 by decide) rfl cs0 (by decide +kernel) (cai (cai (cav jr_ref ca0)))
theorem b206_32 (d : Nat) (μ : jM) (a : Nat) (i1 : Int32) (u2 : Value) : jR d 206 32 [.ref a, .int i1, u2] [] μ = (jgR μ 13 0 (.ref a)).bind fun w1 => (jaI μ w1 i1).bind fun x2 => some (some (.int x2), μ) :=
  (l_aload_n (show gPG 206 32 = some (.aload_n 0) by decide +kernel) rfl jr_ref).trans <|
  (l_gR (show gPG 206 33 = some (.getfield 11) by decide +kernel) (kd := 13) (sl := 0) (tc := 1) (fin := 1) (z := 0) (by decide +kernel) (by decide +kernel) (by decide +kernel)).trans <| bd_cg fun w1 hw1 =>
  (l_iload_n (show gPG 206 36 = some (.iload_n 1) by decide +kernel) rfl).trans <|
  (l_iald (show gPG 206 37 = some (.iaload) by decide +kernel) ).trans <| bd_cg fun x2 hx2 =>
  l_iret1 (show gPG 206 38 = some (.ireturn) by decide +kernel) (by decide +kernel)
