/-! CALLS AND RETURNS -/
def gNPL : List Nat := [0, 0, 0, 0, 0, 0, 0, 0, 0, 0, 1, 0, 6, 3, 3, 3, 1, 3, 1, 0, 0, 3, 2, 2, 3, 4, 4, 2, 4, 3, 4, 3, 1, 1, 2, 0, 2, 2, 0, 0, 0, 2, 2, 1, 1, 3, 3, 4, 1, 3, 2, 3, 0, 0, 1, 3, 3, 5, 0, 3, 3, 2, 3, 1, 3, 0, 3, 3, 0, 1, 0, 4, 0, 1, 0, 0, 3, 1, 1, 0, 4, 2, 2, 3, 2, 1, 2, 0, 2, 1, 1, 5, 1, 2, 3, 2, 2, 3, 1, 2, 3, 2, 2, 2, 2, 3, 3, 4, 3, 4, 1, 0, 4, 0, 1, 0, 0, 1, 1, 2, 1, 0, 2, 1, 0, 0, 2, 2, 2, 0, 1, 1, 0, 1, 1, 1, 1, 1, 1, 2, 1, 0, 0, 0, 0, 0, 1, 1, 1, 1, 1, 3, 1, 1, 1, 1, 0, 0, 0, 0, 0, 0, 2, 0, 6, 3, 1, 3, 1, 3, 1, 1, 0, 0, 1, 0, 1, 1, 0, 1, 0, 0, 0, 2, 0, 1, 1, 0, 3, 0, 2, 2, 5, 3, 2, 2, 4, 4, 2, 2, 2, 3, 3, 4, 4, 3, 2, 2, 4, 1, 1, 1, 0, 0, 0, 1, 1, 1, 3, 4, 2, 2, 3, 2, 0, 0, 0, 1, 3, 5, 3, 2, 3, 1, 1, 6, 4, 5, 3, 4, 3, 2, 2, 0, 0, 0, 0, 0, 0, 0, 2, 2, 1, 3, 2, 4, 1, 3, 3, 0, 0, 1, 3, 3, 5, 1, 1, 1, 1, 0, 1, 1, 2, 1, 0, 1, 0, 1, 3, 2, 2, 0, 0, 1, 0, 2, 3, 1, 2, 1, 2, 0, 1, 1, 1, 0, 1, 0, 2, 1, 5, 4, 1, 4, 2, 2, 2, 3, 3, 2, 3, 2, 3]
def gNP (c : Nat) : Nat := gNPL.getD c 0
/-- the form of an answer against its type -/
def rcok (rc : Nat) (rt : Option FieldType) : Bool := match rt with
  | none => rc == 0
  | some .int => rc == 1
  | some .long => rc == 2
  | some (.object _) => rc == 3
  | some (.array _) => rc == 3
  | some .boolean => rc == 4
  | some .byte => rc == 5
  | some .char => rc == 6
  | _ => false
/-- a method's own shape -/
def mshape (c : Nat) : Bool := (plainName (gY c).cls || (c == 279 || c == 280)) && decide ((gY c).cls = gON (gOW c)) && (gIK c == 0 || decide ((gY c).name = "<init>")) && Nat.blt (gOW c) 22 && decide ((gY c).cls ≠ "java/lang/invoke/MethodHandle") && decide ((gY c).cls ≠ "java/lang/invoke/VarHandle") && Nat.ble (gML c) 14 && rcok (gRC c) (gRt c)
/-- its descriptor's count of values -/
def mparms (c : Nat) : Bool := decide ((parseMethodDescriptor (gY c).desc).map (fun d => d.parameters.length) = some (gNP c))
theorem msh_11 : ((List.range 51).drop 11).all mshape = true := by decide +kernel
theorem msh_51 : ((List.range 91).drop 51).all mshape = true := by decide +kernel
theorem msh_91 : ((List.range 131).drop 91).all mshape = true := by decide +kernel
theorem msh_131 : ((List.range 171).drop 131).all mshape = true := by decide +kernel
theorem msh_171 : ((List.range 211).drop 171).all mshape = true := by decide +kernel
theorem msh_211 : ((List.range 251).drop 211).all mshape = true := by decide +kernel
theorem msh_251 : ((List.range 291).drop 251).all mshape = true := by decide +kernel
theorem msh_291 : ((List.range 313).drop 291).all mshape = true := by decide +kernel
theorem mpa_11 : ((List.range 51).drop 11).all mparms = true := by decide +kernel
theorem mpa_51 : ((List.range 91).drop 51).all mparms = true := by decide +kernel
theorem mpa_91 : ((List.range 131).drop 91).all mparms = true := by decide +kernel
theorem mpa_131 : ((List.range 171).drop 131).all mparms = true := by decide +kernel
theorem mpa_171 : ((List.range 211).drop 171).all mparms = true := by decide +kernel
theorem mpa_211 : ((List.range 251).drop 211).all mparms = true := by decide +kernel
theorem mpa_251 : ((List.range 291).drop 251).all mparms = true := by decide +kernel
theorem mpa_291 : ((List.range 313).drop 291).all mparms = true := by decide +kernel
theorem in_drop {a b c : Nat} (h1 : a ≤ c) (h2 : c < b) : c ∈ (List.range b).drop a := by
  refine List.mem_of_getElem? (i := c - a) ?_
  rw [List.getElem?_drop, show a + (c - a) = c by omega]
  exact List.getElem?_range h2
theorem m_shape {c : Nat} (h1 : 11 ≤ c) (h2 : c < 313) : mshape c = true := by
  rcases Nat.lt_or_ge c 51 with h | h
  · exact List.all_eq_true.mp msh_11 c (in_drop (by omega) h)
  rcases Nat.lt_or_ge c 91 with h | h
  · exact List.all_eq_true.mp msh_51 c (in_drop (by omega) h)
  rcases Nat.lt_or_ge c 131 with h | h
  · exact List.all_eq_true.mp msh_91 c (in_drop (by omega) h)
  rcases Nat.lt_or_ge c 171 with h | h
  · exact List.all_eq_true.mp msh_131 c (in_drop (by omega) h)
  rcases Nat.lt_or_ge c 211 with h | h
  · exact List.all_eq_true.mp msh_171 c (in_drop (by omega) h)
  rcases Nat.lt_or_ge c 251 with h | h
  · exact List.all_eq_true.mp msh_211 c (in_drop (by omega) h)
  rcases Nat.lt_or_ge c 291 with h | h
  · exact List.all_eq_true.mp msh_251 c (in_drop (by omega) h)
  exact List.all_eq_true.mp msh_291 c (in_drop (by omega) h2)
theorem m_parms {c : Nat} (h1 : 11 ≤ c) (h2 : c < 313) : mparms c = true := by
  rcases Nat.lt_or_ge c 51 with h | h
  · exact List.all_eq_true.mp mpa_11 c (in_drop (by omega) h)
  rcases Nat.lt_or_ge c 91 with h | h
  · exact List.all_eq_true.mp mpa_51 c (in_drop (by omega) h)
  rcases Nat.lt_or_ge c 131 with h | h
  · exact List.all_eq_true.mp mpa_91 c (in_drop (by omega) h)
  rcases Nat.lt_or_ge c 171 with h | h
  · exact List.all_eq_true.mp mpa_131 c (in_drop (by omega) h)
  rcases Nat.lt_or_ge c 211 with h | h
  · exact List.all_eq_true.mp mpa_171 c (in_drop (by omega) h)
  rcases Nat.lt_or_ge c 251 with h | h
  · exact List.all_eq_true.mp mpa_211 c (in_drop (by omega) h)
  rcases Nat.lt_or_ge c 291 with h | h
  · exact List.all_eq_true.mp mpa_251 c (in_drop (by omega) h)
  exact List.all_eq_true.mp mpa_291 c (in_drop (by omega) h2)
theorem gcl_11 : ∀ w ∈ [gCode 11, gCode 12, gCode 13, gCode 14, gCode 15, gCode 16, gCode 17, gCode 18, gCode 19, gCode 20, gCode 21, gCode 22, gCode 23, gCode 24, gCode 25, gCode 26, gCode 27, gCode 28, gCode 29, gCode 30, gCode 31, gCode 32, gCode 33, gCode 34, gCode 35, gCode 36, gCode 37, gCode 38, gCode 39, gCode 40, gCode 41, gCode 42, gCode 43, gCode 44, gCode 45, gCode 46, gCode 47, gCode 48, gCode 49, gCode 50], w ∈ lw_tbl := List.forall_mem_cons.mpr ⟨gcw11, List.forall_mem_cons.mpr ⟨gcw12, List.forall_mem_cons.mpr ⟨gcw13, List.forall_mem_cons.mpr ⟨gcw14, List.forall_mem_cons.mpr ⟨gcw15, List.forall_mem_cons.mpr ⟨gcw16, List.forall_mem_cons.mpr ⟨gcw17, List.forall_mem_cons.mpr ⟨gcw18, List.forall_mem_cons.mpr ⟨gcw19, List.forall_mem_cons.mpr ⟨gcw20, List.forall_mem_cons.mpr ⟨gcw21, List.forall_mem_cons.mpr ⟨gcw22, List.forall_mem_cons.mpr ⟨gcw23, List.forall_mem_cons.mpr ⟨gcw24, List.forall_mem_cons.mpr ⟨gcw25, List.forall_mem_cons.mpr ⟨gcw26, List.forall_mem_cons.mpr ⟨gcw27, List.forall_mem_cons.mpr ⟨gcw28, List.forall_mem_cons.mpr ⟨gcw29, List.forall_mem_cons.mpr ⟨gcw30, List.forall_mem_cons.mpr ⟨gcw31, List.forall_mem_cons.mpr ⟨gcw32, List.forall_mem_cons.mpr ⟨gcw33, List.forall_mem_cons.mpr ⟨gcw34, List.forall_mem_cons.mpr ⟨gcw35, List.forall_mem_cons.mpr ⟨gcw36, List.forall_mem_cons.mpr ⟨gcw37, List.forall_mem_cons.mpr ⟨gcw38, List.forall_mem_cons.mpr ⟨gcw39, List.forall_mem_cons.mpr ⟨gcw40, List.forall_mem_cons.mpr ⟨gcw41, List.forall_mem_cons.mpr ⟨gcw42, List.forall_mem_cons.mpr ⟨gcw43, List.forall_mem_cons.mpr ⟨gcw44, List.forall_mem_cons.mpr ⟨gcw45, List.forall_mem_cons.mpr ⟨gcw46, List.forall_mem_cons.mpr ⟨gcw47, List.forall_mem_cons.mpr ⟨gcw48, List.forall_mem_cons.mpr ⟨gcw49, List.forall_mem_cons.mpr ⟨gcw50, (fun _ h => by cases h)⟩⟩⟩⟩⟩⟩⟩⟩⟩⟩⟩⟩⟩⟩⟩⟩⟩⟩⟩⟩⟩⟩⟩⟩⟩⟩⟩⟩⟩⟩⟩⟩⟩⟩⟩⟩⟩⟩⟩⟩
theorem gcl_51 : ∀ w ∈ [gCode 51, gCode 52, gCode 53, gCode 54, gCode 55, gCode 56, gCode 57, gCode 58, gCode 59, gCode 60, gCode 61, gCode 62, gCode 63, gCode 64, gCode 65, gCode 66, gCode 67, gCode 68, gCode 69, gCode 70, gCode 71, gCode 72, gCode 73, gCode 74, gCode 75, gCode 76, gCode 77, gCode 78, gCode 79, gCode 80, gCode 81, gCode 82, gCode 83, gCode 84, gCode 85, gCode 86, gCode 87, gCode 88, gCode 89, gCode 90], w ∈ lw_tbl := List.forall_mem_cons.mpr ⟨gcw51, List.forall_mem_cons.mpr ⟨gcw52, List.forall_mem_cons.mpr ⟨gcw53, List.forall_mem_cons.mpr ⟨gcw54, List.forall_mem_cons.mpr ⟨gcw55, List.forall_mem_cons.mpr ⟨gcw56, List.forall_mem_cons.mpr ⟨gcw57, List.forall_mem_cons.mpr ⟨gcw58, List.forall_mem_cons.mpr ⟨gcw59, List.forall_mem_cons.mpr ⟨gcw60, List.forall_mem_cons.mpr ⟨gcw61, List.forall_mem_cons.mpr ⟨gcw62, List.forall_mem_cons.mpr ⟨gcw63, List.forall_mem_cons.mpr ⟨gcw64, List.forall_mem_cons.mpr ⟨gcw65, List.forall_mem_cons.mpr ⟨gcw66, List.forall_mem_cons.mpr ⟨gcw67, List.forall_mem_cons.mpr ⟨gcw68, List.forall_mem_cons.mpr ⟨gcw69, List.forall_mem_cons.mpr ⟨gcw70, List.forall_mem_cons.mpr ⟨gcw71, List.forall_mem_cons.mpr ⟨gcw72, List.forall_mem_cons.mpr ⟨gcw73, List.forall_mem_cons.mpr ⟨gcw74, List.forall_mem_cons.mpr ⟨gcw75, List.forall_mem_cons.mpr ⟨gcw76, List.forall_mem_cons.mpr ⟨gcw77, List.forall_mem_cons.mpr ⟨gcw78, List.forall_mem_cons.mpr ⟨gcw79, List.forall_mem_cons.mpr ⟨gcw80, List.forall_mem_cons.mpr ⟨gcw81, List.forall_mem_cons.mpr ⟨gcw82, List.forall_mem_cons.mpr ⟨gcw83, List.forall_mem_cons.mpr ⟨gcw84, List.forall_mem_cons.mpr ⟨gcw85, List.forall_mem_cons.mpr ⟨gcw86, List.forall_mem_cons.mpr ⟨gcw87, List.forall_mem_cons.mpr ⟨gcw88, List.forall_mem_cons.mpr ⟨gcw89, List.forall_mem_cons.mpr ⟨gcw90, (fun _ h => by cases h)⟩⟩⟩⟩⟩⟩⟩⟩⟩⟩⟩⟩⟩⟩⟩⟩⟩⟩⟩⟩⟩⟩⟩⟩⟩⟩⟩⟩⟩⟩⟩⟩⟩⟩⟩⟩⟩⟩⟩⟩
theorem gcl_91 : ∀ w ∈ [gCode 91, gCode 92, gCode 93, gCode 94, gCode 95, gCode 96, gCode 97, gCode 98, gCode 99, gCode 100, gCode 101, gCode 102, gCode 103, gCode 104, gCode 105, gCode 106, gCode 107, gCode 108, gCode 109, gCode 110, gCode 111, gCode 112, gCode 113, gCode 114, gCode 115, gCode 116, gCode 117, gCode 118, gCode 119, gCode 120, gCode 121, gCode 122, gCode 123, gCode 124, gCode 125, gCode 126, gCode 127, gCode 128, gCode 129, gCode 130], w ∈ lw_tbl := List.forall_mem_cons.mpr ⟨gcw91, List.forall_mem_cons.mpr ⟨gcw92, List.forall_mem_cons.mpr ⟨gcw93, List.forall_mem_cons.mpr ⟨gcw94, List.forall_mem_cons.mpr ⟨gcw95, List.forall_mem_cons.mpr ⟨gcw96, List.forall_mem_cons.mpr ⟨gcw97, List.forall_mem_cons.mpr ⟨gcw98, List.forall_mem_cons.mpr ⟨gcw99, List.forall_mem_cons.mpr ⟨gcw100, List.forall_mem_cons.mpr ⟨gcw101, List.forall_mem_cons.mpr ⟨gcw102, List.forall_mem_cons.mpr ⟨gcw103, List.forall_mem_cons.mpr ⟨gcw104, List.forall_mem_cons.mpr ⟨gcw105, List.forall_mem_cons.mpr ⟨gcw106, List.forall_mem_cons.mpr ⟨gcw107, List.forall_mem_cons.mpr ⟨gcw108, List.forall_mem_cons.mpr ⟨gcw109, List.forall_mem_cons.mpr ⟨gcw110, List.forall_mem_cons.mpr ⟨gcw111, List.forall_mem_cons.mpr ⟨gcw112, List.forall_mem_cons.mpr ⟨gcw113, List.forall_mem_cons.mpr ⟨gcw114, List.forall_mem_cons.mpr ⟨gcw115, List.forall_mem_cons.mpr ⟨gcw116, List.forall_mem_cons.mpr ⟨gcw117, List.forall_mem_cons.mpr ⟨gcw118, List.forall_mem_cons.mpr ⟨gcw119, List.forall_mem_cons.mpr ⟨gcw120, List.forall_mem_cons.mpr ⟨gcw121, List.forall_mem_cons.mpr ⟨gcw122, List.forall_mem_cons.mpr ⟨gcw123, List.forall_mem_cons.mpr ⟨gcw124, List.forall_mem_cons.mpr ⟨gcw125, List.forall_mem_cons.mpr ⟨gcw126, List.forall_mem_cons.mpr ⟨gcw127, List.forall_mem_cons.mpr ⟨gcw128, List.forall_mem_cons.mpr ⟨gcw129, List.forall_mem_cons.mpr ⟨gcw130, (fun _ h => by cases h)⟩⟩⟩⟩⟩⟩⟩⟩⟩⟩⟩⟩⟩⟩⟩⟩⟩⟩⟩⟩⟩⟩⟩⟩⟩⟩⟩⟩⟩⟩⟩⟩⟩⟩⟩⟩⟩⟩⟩⟩
theorem gcl_131 : ∀ w ∈ [gCode 131, gCode 132, gCode 133, gCode 134, gCode 135, gCode 136, gCode 137, gCode 138, gCode 139, gCode 140, gCode 141, gCode 142, gCode 143, gCode 144, gCode 145, gCode 146, gCode 147, gCode 148, gCode 149, gCode 150, gCode 151, gCode 152, gCode 153, gCode 154, gCode 155, gCode 156, gCode 157, gCode 158, gCode 159, gCode 160, gCode 161, gCode 162, gCode 163, gCode 164, gCode 165, gCode 166, gCode 167, gCode 168, gCode 169, gCode 170], w ∈ lw_tbl := List.forall_mem_cons.mpr ⟨gcw131, List.forall_mem_cons.mpr ⟨gcw132, List.forall_mem_cons.mpr ⟨gcw133, List.forall_mem_cons.mpr ⟨gcw134, List.forall_mem_cons.mpr ⟨gcw135, List.forall_mem_cons.mpr ⟨gcw136, List.forall_mem_cons.mpr ⟨gcw137, List.forall_mem_cons.mpr ⟨gcw138, List.forall_mem_cons.mpr ⟨gcw139, List.forall_mem_cons.mpr ⟨gcw140, List.forall_mem_cons.mpr ⟨gcw141, List.forall_mem_cons.mpr ⟨gcw142, List.forall_mem_cons.mpr ⟨gcw143, List.forall_mem_cons.mpr ⟨gcw144, List.forall_mem_cons.mpr ⟨gcw145, List.forall_mem_cons.mpr ⟨gcw146, List.forall_mem_cons.mpr ⟨gcw147, List.forall_mem_cons.mpr ⟨gcw148, List.forall_mem_cons.mpr ⟨gcw149, List.forall_mem_cons.mpr ⟨gcw150, List.forall_mem_cons.mpr ⟨gcw151, List.forall_mem_cons.mpr ⟨gcw152, List.forall_mem_cons.mpr ⟨gcw153, List.forall_mem_cons.mpr ⟨gcw154, List.forall_mem_cons.mpr ⟨gcw155, List.forall_mem_cons.mpr ⟨gcw156, List.forall_mem_cons.mpr ⟨gcw157, List.forall_mem_cons.mpr ⟨gcw158, List.forall_mem_cons.mpr ⟨gcw159, List.forall_mem_cons.mpr ⟨gcw160, List.forall_mem_cons.mpr ⟨gcw161, List.forall_mem_cons.mpr ⟨gcw162, List.forall_mem_cons.mpr ⟨gcw163, List.forall_mem_cons.mpr ⟨gcw164, List.forall_mem_cons.mpr ⟨gcw165, List.forall_mem_cons.mpr ⟨gcw166, List.forall_mem_cons.mpr ⟨gcw167, List.forall_mem_cons.mpr ⟨gcw168, List.forall_mem_cons.mpr ⟨gcw169, List.forall_mem_cons.mpr ⟨gcw170, (fun _ h => by cases h)⟩⟩⟩⟩⟩⟩⟩⟩⟩⟩⟩⟩⟩⟩⟩⟩⟩⟩⟩⟩⟩⟩⟩⟩⟩⟩⟩⟩⟩⟩⟩⟩⟩⟩⟩⟩⟩⟩⟩⟩
theorem gcl_171 : ∀ w ∈ [gCode 171, gCode 172, gCode 173, gCode 174, gCode 175, gCode 176, gCode 177, gCode 178, gCode 179, gCode 180, gCode 181, gCode 182, gCode 183, gCode 184, gCode 185, gCode 186, gCode 187, gCode 188, gCode 189, gCode 190, gCode 191, gCode 192, gCode 193, gCode 194, gCode 195, gCode 196, gCode 197, gCode 198, gCode 199, gCode 200, gCode 201, gCode 202, gCode 203, gCode 204, gCode 205, gCode 206, gCode 207, gCode 208, gCode 209, gCode 210], w ∈ lw_tbl := List.forall_mem_cons.mpr ⟨gcw171, List.forall_mem_cons.mpr ⟨gcw172, List.forall_mem_cons.mpr ⟨gcw173, List.forall_mem_cons.mpr ⟨gcw174, List.forall_mem_cons.mpr ⟨gcw175, List.forall_mem_cons.mpr ⟨gcw176, List.forall_mem_cons.mpr ⟨gcw177, List.forall_mem_cons.mpr ⟨gcw178, List.forall_mem_cons.mpr ⟨gcw179, List.forall_mem_cons.mpr ⟨gcw180, List.forall_mem_cons.mpr ⟨gcw181, List.forall_mem_cons.mpr ⟨gcw182, List.forall_mem_cons.mpr ⟨gcw183, List.forall_mem_cons.mpr ⟨gcw184, List.forall_mem_cons.mpr ⟨gcw185, List.forall_mem_cons.mpr ⟨gcw186, List.forall_mem_cons.mpr ⟨gcw187, List.forall_mem_cons.mpr ⟨gcw188, List.forall_mem_cons.mpr ⟨gcw189, List.forall_mem_cons.mpr ⟨gcw190, List.forall_mem_cons.mpr ⟨gcw191, List.forall_mem_cons.mpr ⟨gcw192, List.forall_mem_cons.mpr ⟨gcw193, List.forall_mem_cons.mpr ⟨gcw194, List.forall_mem_cons.mpr ⟨gcw195, List.forall_mem_cons.mpr ⟨gcw196, List.forall_mem_cons.mpr ⟨gcw197, List.forall_mem_cons.mpr ⟨gcw198, List.forall_mem_cons.mpr ⟨gcw199, List.forall_mem_cons.mpr ⟨gcw200, List.forall_mem_cons.mpr ⟨gcw201, List.forall_mem_cons.mpr ⟨gcw202, List.forall_mem_cons.mpr ⟨gcw203, List.forall_mem_cons.mpr ⟨gcw204, List.forall_mem_cons.mpr ⟨gcw205, List.forall_mem_cons.mpr ⟨gcw206, List.forall_mem_cons.mpr ⟨gcw207, List.forall_mem_cons.mpr ⟨gcw208, List.forall_mem_cons.mpr ⟨gcw209, List.forall_mem_cons.mpr ⟨gcw210, (fun _ h => by cases h)⟩⟩⟩⟩⟩⟩⟩⟩⟩⟩⟩⟩⟩⟩⟩⟩⟩⟩⟩⟩⟩⟩⟩⟩⟩⟩⟩⟩⟩⟩⟩⟩⟩⟩⟩⟩⟩⟩⟩⟩
theorem gcl_211 : ∀ w ∈ [gCode 211, gCode 212, gCode 213, gCode 214, gCode 215, gCode 216, gCode 217, gCode 218, gCode 219, gCode 220, gCode 221, gCode 222, gCode 223, gCode 224, gCode 225, gCode 226, gCode 227, gCode 228, gCode 229, gCode 230, gCode 231, gCode 232, gCode 233, gCode 234, gCode 235, gCode 236, gCode 237, gCode 238, gCode 239, gCode 240, gCode 241, gCode 242, gCode 243, gCode 244, gCode 245, gCode 246, gCode 247, gCode 248, gCode 249, gCode 250], w ∈ lw_tbl := List.forall_mem_cons.mpr ⟨gcw211, List.forall_mem_cons.mpr ⟨gcw212, List.forall_mem_cons.mpr ⟨gcw213, List.forall_mem_cons.mpr ⟨gcw214, List.forall_mem_cons.mpr ⟨gcw215, List.forall_mem_cons.mpr ⟨gcw216, List.forall_mem_cons.mpr ⟨gcw217, List.forall_mem_cons.mpr ⟨gcw218, List.forall_mem_cons.mpr ⟨gcw219, List.forall_mem_cons.mpr ⟨gcw220, List.forall_mem_cons.mpr ⟨gcw221, List.forall_mem_cons.mpr ⟨gcw222, List.forall_mem_cons.mpr ⟨gcw223, List.forall_mem_cons.mpr ⟨gcw224, List.forall_mem_cons.mpr ⟨gcw225, List.forall_mem_cons.mpr ⟨gcw226, List.forall_mem_cons.mpr ⟨gcw227, List.forall_mem_cons.mpr ⟨gcw228, List.forall_mem_cons.mpr ⟨gcw229, List.forall_mem_cons.mpr ⟨gcw230, List.forall_mem_cons.mpr ⟨gcw231, List.forall_mem_cons.mpr ⟨gcw232, List.forall_mem_cons.mpr ⟨gcw233, List.forall_mem_cons.mpr ⟨gcw234, List.forall_mem_cons.mpr ⟨gcw235, List.forall_mem_cons.mpr ⟨gcw236, List.forall_mem_cons.mpr ⟨gcw237, List.forall_mem_cons.mpr ⟨gcw238, List.forall_mem_cons.mpr ⟨gcw239, List.forall_mem_cons.mpr ⟨gcw240, List.forall_mem_cons.mpr ⟨gcw241, List.forall_mem_cons.mpr ⟨gcw242, List.forall_mem_cons.mpr ⟨gcw243, List.forall_mem_cons.mpr ⟨gcw244, List.forall_mem_cons.mpr ⟨gcw245, List.forall_mem_cons.mpr ⟨gcw246, List.forall_mem_cons.mpr ⟨gcw247, List.forall_mem_cons.mpr ⟨gcw248, List.forall_mem_cons.mpr ⟨gcw249, List.forall_mem_cons.mpr ⟨gcw250, (fun _ h => by cases h)⟩⟩⟩⟩⟩⟩⟩⟩⟩⟩⟩⟩⟩⟩⟩⟩⟩⟩⟩⟩⟩⟩⟩⟩⟩⟩⟩⟩⟩⟩⟩⟩⟩⟩⟩⟩⟩⟩⟩⟩
theorem gcl_251 : ∀ w ∈ [gCode 251, gCode 252, gCode 253, gCode 254, gCode 255, gCode 256, gCode 257, gCode 258, gCode 259, gCode 260, gCode 261, gCode 262, gCode 263, gCode 264, gCode 265, gCode 266, gCode 267, gCode 268, gCode 269, gCode 270, gCode 271, gCode 272, gCode 273, gCode 274, gCode 275, gCode 276, gCode 277, gCode 278, gCode 279, gCode 280, gCode 281, gCode 282, gCode 283, gCode 284, gCode 285, gCode 286, gCode 287, gCode 288, gCode 289, gCode 290], w ∈ lw_tbl := List.forall_mem_cons.mpr ⟨gcw251, List.forall_mem_cons.mpr ⟨gcw252, List.forall_mem_cons.mpr ⟨gcw253, List.forall_mem_cons.mpr ⟨gcw254, List.forall_mem_cons.mpr ⟨gcw255, List.forall_mem_cons.mpr ⟨gcw256, List.forall_mem_cons.mpr ⟨gcw257, List.forall_mem_cons.mpr ⟨gcw258, List.forall_mem_cons.mpr ⟨gcw259, List.forall_mem_cons.mpr ⟨gcw260, List.forall_mem_cons.mpr ⟨gcw261, List.forall_mem_cons.mpr ⟨gcw262, List.forall_mem_cons.mpr ⟨gcw263, List.forall_mem_cons.mpr ⟨gcw264, List.forall_mem_cons.mpr ⟨gcw265, List.forall_mem_cons.mpr ⟨gcw266, List.forall_mem_cons.mpr ⟨gcw267, List.forall_mem_cons.mpr ⟨gcw268, List.forall_mem_cons.mpr ⟨gcw269, List.forall_mem_cons.mpr ⟨gcw270, List.forall_mem_cons.mpr ⟨gcw271, List.forall_mem_cons.mpr ⟨gcw272, List.forall_mem_cons.mpr ⟨gcw273, List.forall_mem_cons.mpr ⟨gcw274, List.forall_mem_cons.mpr ⟨gcw275, List.forall_mem_cons.mpr ⟨gcw276, List.forall_mem_cons.mpr ⟨gcw277, List.forall_mem_cons.mpr ⟨gcw278, List.forall_mem_cons.mpr ⟨gcw279, List.forall_mem_cons.mpr ⟨gcw280, List.forall_mem_cons.mpr ⟨gcw281, List.forall_mem_cons.mpr ⟨gcw282, List.forall_mem_cons.mpr ⟨gcw283, List.forall_mem_cons.mpr ⟨gcw284, List.forall_mem_cons.mpr ⟨gcw285, List.forall_mem_cons.mpr ⟨gcw286, List.forall_mem_cons.mpr ⟨gcw287, List.forall_mem_cons.mpr ⟨gcw288, List.forall_mem_cons.mpr ⟨gcw289, List.forall_mem_cons.mpr ⟨gcw290, (fun _ h => by cases h)⟩⟩⟩⟩⟩⟩⟩⟩⟩⟩⟩⟩⟩⟩⟩⟩⟩⟩⟩⟩⟩⟩⟩⟩⟩⟩⟩⟩⟩⟩⟩⟩⟩⟩⟩⟩⟩⟩⟩⟩
theorem gcl_291 : ∀ w ∈ [gCode 291, gCode 292, gCode 293, gCode 294, gCode 295, gCode 296, gCode 297, gCode 298, gCode 299, gCode 300, gCode 301, gCode 302, gCode 303, gCode 304, gCode 305, gCode 306, gCode 307, gCode 308, gCode 309, gCode 310, gCode 311, gCode 312], w ∈ lw_tbl := List.forall_mem_cons.mpr ⟨gcw291, List.forall_mem_cons.mpr ⟨gcw292, List.forall_mem_cons.mpr ⟨gcw293, List.forall_mem_cons.mpr ⟨gcw294, List.forall_mem_cons.mpr ⟨gcw295, List.forall_mem_cons.mpr ⟨gcw296, List.forall_mem_cons.mpr ⟨gcw297, List.forall_mem_cons.mpr ⟨gcw298, List.forall_mem_cons.mpr ⟨gcw299, List.forall_mem_cons.mpr ⟨gcw300, List.forall_mem_cons.mpr ⟨gcw301, List.forall_mem_cons.mpr ⟨gcw302, List.forall_mem_cons.mpr ⟨gcw303, List.forall_mem_cons.mpr ⟨gcw304, List.forall_mem_cons.mpr ⟨gcw305, List.forall_mem_cons.mpr ⟨gcw306, List.forall_mem_cons.mpr ⟨gcw307, List.forall_mem_cons.mpr ⟨gcw308, List.forall_mem_cons.mpr ⟨gcw309, List.forall_mem_cons.mpr ⟨gcw310, List.forall_mem_cons.mpr ⟨gcw311, List.forall_mem_cons.mpr ⟨gcw312, (fun _ h => by cases h)⟩⟩⟩⟩⟩⟩⟩⟩⟩⟩⟩⟩⟩⟩⟩⟩⟩⟩⟩⟩⟩⟩
theorem gcw_all {c : Nat} (h1 : 11 ≤ c) (h2 : c < 313) : gCode c ∈ lw_tbl := by
  rcases Nat.lt_or_ge c 51 with h | h
  · exact gcl_11 _ (show gCode c ∈ ((List.range 51).drop 11).map gCode from List.mem_map.mpr ⟨c, in_drop (by omega) (by omega), rfl⟩)
  rcases Nat.lt_or_ge c 91 with h | h
  · exact gcl_51 _ (show gCode c ∈ ((List.range 91).drop 51).map gCode from List.mem_map.mpr ⟨c, in_drop (by omega) (by omega), rfl⟩)
  rcases Nat.lt_or_ge c 131 with h | h
  · exact gcl_91 _ (show gCode c ∈ ((List.range 131).drop 91).map gCode from List.mem_map.mpr ⟨c, in_drop (by omega) (by omega), rfl⟩)
  rcases Nat.lt_or_ge c 171 with h | h
  · exact gcl_131 _ (show gCode c ∈ ((List.range 171).drop 131).map gCode from List.mem_map.mpr ⟨c, in_drop (by omega) (by omega), rfl⟩)
  rcases Nat.lt_or_ge c 211 with h | h
  · exact gcl_171 _ (show gCode c ∈ ((List.range 211).drop 171).map gCode from List.mem_map.mpr ⟨c, in_drop (by omega) (by omega), rfl⟩)
  rcases Nat.lt_or_ge c 251 with h | h
  · exact gcl_211 _ (show gCode c ∈ ((List.range 251).drop 211).map gCode from List.mem_map.mpr ⟨c, in_drop (by omega) (by omega), rfl⟩)
  rcases Nat.lt_or_ge c 291 with h | h
  · exact gcl_251 _ (show gCode c ∈ ((List.range 291).drop 251).map gCode from List.mem_map.mpr ⟨c, in_drop (by omega) (by omega), rfl⟩)
  exact gcl_291 _ (show gCode c ∈ ((List.range 313).drop 291).map gCode from List.mem_map.mpr ⟨c, in_drop (by omega) (by omega), rfl⟩)
theorem gdl_11 : ∀ q ∈ [((gPGL.getD 11 []), gB 11), ((gPGL.getD 12 []), gB 12), ((gPGL.getD 13 []), gB 13), ((gPGL.getD 14 []), gB 14), ((gPGL.getD 15 []), gB 15), ((gPGL.getD 16 []), gB 16), ((gPGL.getD 17 []), gB 17), ((gPGL.getD 18 []), gB 18), ((gPGL.getD 19 []), gB 19), ((gPGL.getD 20 []), gB 20), ((gPGL.getD 21 []), gB 21), ((gPGL.getD 22 []), gB 22), ((gPGL.getD 23 []), gB 23), ((gPGL.getD 24 []), gB 24), ((gPGL.getD 25 []), gB 25), ((gPGL.getD 26 []), gB 26), ((gPGL.getD 27 []), gB 27), ((gPGL.getD 28 []), gB 28), ((gPGL.getD 29 []), gB 29), ((gPGL.getD 30 []), gB 30), ((gPGL.getD 31 []), gB 31), ((gPGL.getD 32 []), gB 32), ((gPGL.getD 33 []), gB 33), ((gPGL.getD 34 []), gB 34), ((gPGL.getD 35 []), gB 35), ((gPGL.getD 36 []), gB 36), ((gPGL.getD 37 []), gB 37), ((gPGL.getD 38 []), gB 38), ((gPGL.getD 39 []), gB 39), ((gPGL.getD 40 []), gB 40), ((gPGL.getD 41 []), gB 41), ((gPGL.getD 42 []), gB 42), ((gPGL.getD 43 []), gB 43), ((gPGL.getD 44 []), gB 44), ((gPGL.getD 45 []), gB 45), ((gPGL.getD 46 []), gB 46), ((gPGL.getD 47 []), gB 47), ((gPGL.getD 48 []), gB 48), ((gPGL.getD 49 []), gB 49), ((gPGL.getD 50 []), gB 50)], q.1.all (dok q.2) = true := List.forall_mem_cons.mpr ⟨gd11, List.forall_mem_cons.mpr ⟨gd12, List.forall_mem_cons.mpr ⟨gd13, List.forall_mem_cons.mpr ⟨gd14, List.forall_mem_cons.mpr ⟨gd15, List.forall_mem_cons.mpr ⟨gd16, List.forall_mem_cons.mpr ⟨gd17, List.forall_mem_cons.mpr ⟨gd18, List.forall_mem_cons.mpr ⟨gd19, List.forall_mem_cons.mpr ⟨gd20, List.forall_mem_cons.mpr ⟨gd21, List.forall_mem_cons.mpr ⟨gd22, List.forall_mem_cons.mpr ⟨gd23, List.forall_mem_cons.mpr ⟨gd24, List.forall_mem_cons.mpr ⟨gd25, List.forall_mem_cons.mpr ⟨gd26, List.forall_mem_cons.mpr ⟨gd27, List.forall_mem_cons.mpr ⟨gd28, List.forall_mem_cons.mpr ⟨gd29, List.forall_mem_cons.mpr ⟨gd30, List.forall_mem_cons.mpr ⟨gd31, List.forall_mem_cons.mpr ⟨gd32, List.forall_mem_cons.mpr ⟨gd33, List.forall_mem_cons.mpr ⟨gd34, List.forall_mem_cons.mpr ⟨gd35, List.forall_mem_cons.mpr ⟨gd36, List.forall_mem_cons.mpr ⟨gd37, List.forall_mem_cons.mpr ⟨gd38, List.forall_mem_cons.mpr ⟨gd39, List.forall_mem_cons.mpr ⟨gd40, List.forall_mem_cons.mpr ⟨gd41, List.forall_mem_cons.mpr ⟨gd42, List.forall_mem_cons.mpr ⟨gd43, List.forall_mem_cons.mpr ⟨gd44, List.forall_mem_cons.mpr ⟨gd45, List.forall_mem_cons.mpr ⟨gd46, List.forall_mem_cons.mpr ⟨gd47, List.forall_mem_cons.mpr ⟨gd48, List.forall_mem_cons.mpr ⟨gd49, List.forall_mem_cons.mpr ⟨gd50, (fun _ h => by cases h)⟩⟩⟩⟩⟩⟩⟩⟩⟩⟩⟩⟩⟩⟩⟩⟩⟩⟩⟩⟩⟩⟩⟩⟩⟩⟩⟩⟩⟩⟩⟩⟩⟩⟩⟩⟩⟩⟩⟩⟩
theorem gdl_51 : ∀ q ∈ [((gPGL.getD 51 []), gB 51), ((gPGL.getD 52 []), gB 52), ((gPGL.getD 53 []), gB 53), ((gPGL.getD 54 []), gB 54), ((gPGL.getD 55 []), gB 55), ((gPGL.getD 56 []), gB 56), ((gPGL.getD 57 []), gB 57), ((gPGL.getD 58 []), gB 58), ((gPGL.getD 59 []), gB 59), ((gPGL.getD 60 []), gB 60), ((gPGL.getD 61 []), gB 61), ((gPGL.getD 62 []), gB 62), ((gPGL.getD 63 []), gB 63), ((gPGL.getD 64 []), gB 64), ((gPGL.getD 65 []), gB 65), ((gPGL.getD 66 []), gB 66), ((gPGL.getD 67 []), gB 67), ((gPGL.getD 68 []), gB 68), ((gPGL.getD 69 []), gB 69), ((gPGL.getD 70 []), gB 70), ((gPGL.getD 71 []), gB 71), ((gPGL.getD 72 []), gB 72), ((gPGL.getD 73 []), gB 73), ((gPGL.getD 74 []), gB 74), ((gPGL.getD 75 []), gB 75), ((gPGL.getD 76 []), gB 76), ((gPGL.getD 77 []), gB 77), ((gPGL.getD 78 []), gB 78), ((gPGL.getD 79 []), gB 79), ((gPGL.getD 80 []), gB 80), ((gPGL.getD 81 []), gB 81), ((gPGL.getD 82 []), gB 82), ((gPGL.getD 83 []), gB 83), ((gPGL.getD 84 []), gB 84), ((gPGL.getD 85 []), gB 85), ((gPGL.getD 86 []), gB 86), ((gPGL.getD 87 []), gB 87), ((gPGL.getD 88 []), gB 88), ((gPGL.getD 89 []), gB 89), ((gPGL.getD 90 []), gB 90)], q.1.all (dok q.2) = true := List.forall_mem_cons.mpr ⟨gd51, List.forall_mem_cons.mpr ⟨gd52, List.forall_mem_cons.mpr ⟨gd53, List.forall_mem_cons.mpr ⟨gd54, List.forall_mem_cons.mpr ⟨gd55, List.forall_mem_cons.mpr ⟨gd56, List.forall_mem_cons.mpr ⟨gd57, List.forall_mem_cons.mpr ⟨gd58, List.forall_mem_cons.mpr ⟨gd59, List.forall_mem_cons.mpr ⟨gd60, List.forall_mem_cons.mpr ⟨gd61, List.forall_mem_cons.mpr ⟨gd62, List.forall_mem_cons.mpr ⟨gd63, List.forall_mem_cons.mpr ⟨gd64, List.forall_mem_cons.mpr ⟨gd65, List.forall_mem_cons.mpr ⟨gd66, List.forall_mem_cons.mpr ⟨gd67, List.forall_mem_cons.mpr ⟨gd68, List.forall_mem_cons.mpr ⟨gd69, List.forall_mem_cons.mpr ⟨gd70, List.forall_mem_cons.mpr ⟨gd71, List.forall_mem_cons.mpr ⟨gd72, List.forall_mem_cons.mpr ⟨gd73, List.forall_mem_cons.mpr ⟨gd74, List.forall_mem_cons.mpr ⟨gd75, List.forall_mem_cons.mpr ⟨gd76, List.forall_mem_cons.mpr ⟨gd77, List.forall_mem_cons.mpr ⟨gd78, List.forall_mem_cons.mpr ⟨gd79, List.forall_mem_cons.mpr ⟨gd80, List.forall_mem_cons.mpr ⟨gd81, List.forall_mem_cons.mpr ⟨gd82, List.forall_mem_cons.mpr ⟨gd83, List.forall_mem_cons.mpr ⟨gd84, List.forall_mem_cons.mpr ⟨gd85, List.forall_mem_cons.mpr ⟨gd86, List.forall_mem_cons.mpr ⟨gd87, List.forall_mem_cons.mpr ⟨gd88, List.forall_mem_cons.mpr ⟨gd89, List.forall_mem_cons.mpr ⟨gd90, (fun _ h => by cases h)⟩⟩⟩⟩⟩⟩⟩⟩⟩⟩⟩⟩⟩⟩⟩⟩⟩⟩⟩⟩⟩⟩⟩⟩⟩⟩⟩⟩⟩⟩⟩⟩⟩⟩⟩⟩⟩⟩⟩⟩
theorem gdl_91 : ∀ q ∈ [((gPGL.getD 91 []), gB 91), ((gPGL.getD 92 []), gB 92), ((gPGL.getD 93 []), gB 93), ((gPGL.getD 94 []), gB 94), ((gPGL.getD 95 []), gB 95), ((gPGL.getD 96 []), gB 96), ((gPGL.getD 97 []), gB 97), ((gPGL.getD 98 []), gB 98), ((gPGL.getD 99 []), gB 99), ((gPGL.getD 100 []), gB 100), ((gPGL.getD 101 []), gB 101), ((gPGL.getD 102 []), gB 102), ((gPGL.getD 103 []), gB 103), ((gPGL.getD 104 []), gB 104), ((gPGL.getD 105 []), gB 105), ((gPGL.getD 106 []), gB 106), ((gPGL.getD 107 []), gB 107), ((gPGL.getD 108 []), gB 108), ((gPGL.getD 109 []), gB 109), ((gPGL.getD 110 []), gB 110), ((gPGL.getD 111 []), gB 111), ((gPGL.getD 112 []), gB 112), ((gPGL.getD 113 []), gB 113), ((gPGL.getD 114 []), gB 114), ((gPGL.getD 115 []), gB 115), ((gPGL.getD 116 []), gB 116), ((gPGL.getD 117 []), gB 117), ((gPGL.getD 118 []), gB 118), ((gPGL.getD 119 []), gB 119), ((gPGL.getD 120 []), gB 120), ((gPGL.getD 121 []), gB 121), ((gPGL.getD 122 []), gB 122), ((gPGL.getD 123 []), gB 123), ((gPGL.getD 124 []), gB 124), ((gPGL.getD 125 []), gB 125), ((gPGL.getD 126 []), gB 126), ((gPGL.getD 127 []), gB 127), ((gPGL.getD 128 []), gB 128), ((gPGL.getD 129 []), gB 129), ((gPGL.getD 130 []), gB 130)], q.1.all (dok q.2) = true := List.forall_mem_cons.mpr ⟨gd91, List.forall_mem_cons.mpr ⟨gd92, List.forall_mem_cons.mpr ⟨gd93, List.forall_mem_cons.mpr ⟨gd94, List.forall_mem_cons.mpr ⟨gd95, List.forall_mem_cons.mpr ⟨gd96, List.forall_mem_cons.mpr ⟨gd97, List.forall_mem_cons.mpr ⟨gd98, List.forall_mem_cons.mpr ⟨gd99, List.forall_mem_cons.mpr ⟨gd100, List.forall_mem_cons.mpr ⟨gd101, List.forall_mem_cons.mpr ⟨gd102, List.forall_mem_cons.mpr ⟨gd103, List.forall_mem_cons.mpr ⟨gd104, List.forall_mem_cons.mpr ⟨gd105, List.forall_mem_cons.mpr ⟨gd106, List.forall_mem_cons.mpr ⟨gd107, List.forall_mem_cons.mpr ⟨gd108, List.forall_mem_cons.mpr ⟨gd109, List.forall_mem_cons.mpr ⟨gd110, List.forall_mem_cons.mpr ⟨gd111, List.forall_mem_cons.mpr ⟨gd112, List.forall_mem_cons.mpr ⟨gd113, List.forall_mem_cons.mpr ⟨gd114, List.forall_mem_cons.mpr ⟨gd115, List.forall_mem_cons.mpr ⟨gd116, List.forall_mem_cons.mpr ⟨gd117, List.forall_mem_cons.mpr ⟨gd118, List.forall_mem_cons.mpr ⟨gd119, List.forall_mem_cons.mpr ⟨gd120, List.forall_mem_cons.mpr ⟨gd121, List.forall_mem_cons.mpr ⟨gd122, List.forall_mem_cons.mpr ⟨gd123, List.forall_mem_cons.mpr ⟨gd124, List.forall_mem_cons.mpr ⟨gd125, List.forall_mem_cons.mpr ⟨gd126, List.forall_mem_cons.mpr ⟨gd127, List.forall_mem_cons.mpr ⟨gd128, List.forall_mem_cons.mpr ⟨gd129, List.forall_mem_cons.mpr ⟨gd130, (fun _ h => by cases h)⟩⟩⟩⟩⟩⟩⟩⟩⟩⟩⟩⟩⟩⟩⟩⟩⟩⟩⟩⟩⟩⟩⟩⟩⟩⟩⟩⟩⟩⟩⟩⟩⟩⟩⟩⟩⟩⟩⟩⟩
theorem gdl_131 : ∀ q ∈ [((gPGL.getD 131 []), gB 131), ((gPGL.getD 132 []), gB 132), ((gPGL.getD 133 []), gB 133), ((gPGL.getD 134 []), gB 134), ((gPGL.getD 135 []), gB 135), ((gPGL.getD 136 []), gB 136), ((gPGL.getD 137 []), gB 137), ((gPGL.getD 138 []), gB 138), ((gPGL.getD 139 []), gB 139), ((gPGL.getD 140 []), gB 140), ((gPGL.getD 141 []), gB 141), ((gPGL.getD 142 []), gB 142), ((gPGL.getD 143 []), gB 143), ((gPGL.getD 144 []), gB 144), ((gPGL.getD 145 []), gB 145), ((gPGL.getD 146 []), gB 146), ((gPGL.getD 147 []), gB 147), ((gPGL.getD 148 []), gB 148), ((gPGL.getD 149 []), gB 149), ((gPGL.getD 150 []), gB 150), ((gPGL.getD 151 []), gB 151), ((gPGL.getD 152 []), gB 152), ((gPGL.getD 153 []), gB 153), ((gPGL.getD 154 []), gB 154), ((gPGL.getD 155 []), gB 155), ((gPGL.getD 156 []), gB 156), ((gPGL.getD 157 []), gB 157), ((gPGL.getD 158 []), gB 158), ((gPGL.getD 159 []), gB 159), ((gPGL.getD 160 []), gB 160), ((gPGL.getD 161 []), gB 161), ((gPGL.getD 162 []), gB 162), ((gPGL.getD 163 []), gB 163), ((gPGL.getD 164 []), gB 164), ((gPGL.getD 165 []), gB 165), ((gPGL.getD 166 []), gB 166), ((gPGL.getD 167 []), gB 167), ((gPGL.getD 168 []), gB 168), ((gPGL.getD 169 []), gB 169), ((gPGL.getD 170 []), gB 170)], q.1.all (dok q.2) = true := List.forall_mem_cons.mpr ⟨gd131, List.forall_mem_cons.mpr ⟨gd132, List.forall_mem_cons.mpr ⟨gd133, List.forall_mem_cons.mpr ⟨gd134, List.forall_mem_cons.mpr ⟨gd135, List.forall_mem_cons.mpr ⟨gd136, List.forall_mem_cons.mpr ⟨gd137, List.forall_mem_cons.mpr ⟨gd138, List.forall_mem_cons.mpr ⟨gd139, List.forall_mem_cons.mpr ⟨gd140, List.forall_mem_cons.mpr ⟨gd141, List.forall_mem_cons.mpr ⟨gd142, List.forall_mem_cons.mpr ⟨gd143, List.forall_mem_cons.mpr ⟨gd144, List.forall_mem_cons.mpr ⟨gd145, List.forall_mem_cons.mpr ⟨gd146, List.forall_mem_cons.mpr ⟨gd147, List.forall_mem_cons.mpr ⟨gd148, List.forall_mem_cons.mpr ⟨gd149, List.forall_mem_cons.mpr ⟨gd150, List.forall_mem_cons.mpr ⟨gd151, List.forall_mem_cons.mpr ⟨gd152, List.forall_mem_cons.mpr ⟨gd153, List.forall_mem_cons.mpr ⟨gd154, List.forall_mem_cons.mpr ⟨gd155, List.forall_mem_cons.mpr ⟨gd156, List.forall_mem_cons.mpr ⟨gd157, List.forall_mem_cons.mpr ⟨gd158, List.forall_mem_cons.mpr ⟨gd159, List.forall_mem_cons.mpr ⟨gd160, List.forall_mem_cons.mpr ⟨gd161, List.forall_mem_cons.mpr ⟨gd162, List.forall_mem_cons.mpr ⟨gd163, List.forall_mem_cons.mpr ⟨gd164, List.forall_mem_cons.mpr ⟨gd165, List.forall_mem_cons.mpr ⟨gd166, List.forall_mem_cons.mpr ⟨gd167, List.forall_mem_cons.mpr ⟨gd168, List.forall_mem_cons.mpr ⟨gd169, List.forall_mem_cons.mpr ⟨gd170, (fun _ h => by cases h)⟩⟩⟩⟩⟩⟩⟩⟩⟩⟩⟩⟩⟩⟩⟩⟩⟩⟩⟩⟩⟩⟩⟩⟩⟩⟩⟩⟩⟩⟩⟩⟩⟩⟩⟩⟩⟩⟩⟩⟩
theorem gdl_171 : ∀ q ∈ [((gPGL.getD 171 []), gB 171), ((gPGL.getD 172 []), gB 172), ((gPGL.getD 173 []), gB 173), ((gPGL.getD 174 []), gB 174), ((gPGL.getD 175 []), gB 175), ((gPGL.getD 176 []), gB 176), ((gPGL.getD 177 []), gB 177), ((gPGL.getD 178 []), gB 178), ((gPGL.getD 179 []), gB 179), ((gPGL.getD 180 []), gB 180), ((gPGL.getD 181 []), gB 181), ((gPGL.getD 182 []), gB 182), ((gPGL.getD 183 []), gB 183), ((gPGL.getD 184 []), gB 184), ((gPGL.getD 185 []), gB 185), ((gPGL.getD 186 []), gB 186), ((gPGL.getD 187 []), gB 187), ((gPGL.getD 188 []), gB 188), ((gPGL.getD 189 []), gB 189), ((gPGL.getD 190 []), gB 190), ((gPGL.getD 191 []), gB 191), ((gPGL.getD 192 []), gB 192), ((gPGL.getD 193 []), gB 193), ((gPGL.getD 194 []), gB 194), ((gPGL.getD 195 []), gB 195), ((gPGL.getD 196 []), gB 196), ((gPGL.getD 197 []), gB 197), ((gPGL.getD 198 []), gB 198), ((gPGL.getD 199 []), gB 199), ((gPGL.getD 200 []), gB 200), ((gPGL.getD 201 []), gB 201), ((gPGL.getD 202 []), gB 202), ((gPGL.getD 203 []), gB 203), ((gPGL.getD 204 []), gB 204), ((gPGL.getD 205 []), gB 205), ((gPGL.getD 206 []), gB 206), ((gPGL.getD 207 []), gB 207), ((gPGL.getD 208 []), gB 208), ((gPGL.getD 209 []), gB 209), ((gPGL.getD 210 []), gB 210)], q.1.all (dok q.2) = true := List.forall_mem_cons.mpr ⟨gd171, List.forall_mem_cons.mpr ⟨gd172, List.forall_mem_cons.mpr ⟨gd173, List.forall_mem_cons.mpr ⟨gd174, List.forall_mem_cons.mpr ⟨gd175, List.forall_mem_cons.mpr ⟨gd176, List.forall_mem_cons.mpr ⟨gd177, List.forall_mem_cons.mpr ⟨gd178, List.forall_mem_cons.mpr ⟨gd179, List.forall_mem_cons.mpr ⟨gd180, List.forall_mem_cons.mpr ⟨gd181, List.forall_mem_cons.mpr ⟨gd182, List.forall_mem_cons.mpr ⟨gd183, List.forall_mem_cons.mpr ⟨gd184, List.forall_mem_cons.mpr ⟨gd185, List.forall_mem_cons.mpr ⟨gd186, List.forall_mem_cons.mpr ⟨gd187, List.forall_mem_cons.mpr ⟨gd188, List.forall_mem_cons.mpr ⟨gd189, List.forall_mem_cons.mpr ⟨gd190, List.forall_mem_cons.mpr ⟨gd191, List.forall_mem_cons.mpr ⟨gd192, List.forall_mem_cons.mpr ⟨gd193, List.forall_mem_cons.mpr ⟨gd194, List.forall_mem_cons.mpr ⟨gd195, List.forall_mem_cons.mpr ⟨gd196, List.forall_mem_cons.mpr ⟨gd197, List.forall_mem_cons.mpr ⟨gd198, List.forall_mem_cons.mpr ⟨gd199, List.forall_mem_cons.mpr ⟨gd200, List.forall_mem_cons.mpr ⟨gd201, List.forall_mem_cons.mpr ⟨gd202, List.forall_mem_cons.mpr ⟨gd203, List.forall_mem_cons.mpr ⟨gd204, List.forall_mem_cons.mpr ⟨gd205, List.forall_mem_cons.mpr ⟨gd206, List.forall_mem_cons.mpr ⟨gd207, List.forall_mem_cons.mpr ⟨gd208, List.forall_mem_cons.mpr ⟨gd209, List.forall_mem_cons.mpr ⟨gd210, (fun _ h => by cases h)⟩⟩⟩⟩⟩⟩⟩⟩⟩⟩⟩⟩⟩⟩⟩⟩⟩⟩⟩⟩⟩⟩⟩⟩⟩⟩⟩⟩⟩⟩⟩⟩⟩⟩⟩⟩⟩⟩⟩⟩
theorem gdl_211 : ∀ q ∈ [((gPGL.getD 211 []), gB 211), ((gPGL.getD 212 []), gB 212), ((gPGL.getD 213 []), gB 213), ((gPGL.getD 214 []), gB 214), ((gPGL.getD 215 []), gB 215), ((gPGL.getD 216 []), gB 216), ((gPGL.getD 217 []), gB 217), ((gPGL.getD 218 []), gB 218), ((gPGL.getD 219 []), gB 219), ((gPGL.getD 220 []), gB 220), ((gPGL.getD 221 []), gB 221), ((gPGL.getD 222 []), gB 222), ((gPGL.getD 223 []), gB 223), ((gPGL.getD 224 []), gB 224), ((gPGL.getD 225 []), gB 225), ((gPGL.getD 226 []), gB 226), ((gPGL.getD 227 []), gB 227), ((gPGL.getD 228 []), gB 228), ((gPGL.getD 229 []), gB 229), ((gPGL.getD 230 []), gB 230), ((gPGL.getD 231 []), gB 231), ((gPGL.getD 232 []), gB 232), ((gPGL.getD 233 []), gB 233), ((gPGL.getD 234 []), gB 234), ((gPGL.getD 235 []), gB 235), ((gPGL.getD 236 []), gB 236), ((gPGL.getD 237 []), gB 237), ((gPGL.getD 238 []), gB 238), ((gPGL.getD 239 []), gB 239), ((gPGL.getD 240 []), gB 240), ((gPGL.getD 241 []), gB 241), ((gPGL.getD 242 []), gB 242), ((gPGL.getD 243 []), gB 243), ((gPGL.getD 244 []), gB 244), ((gPGL.getD 245 []), gB 245), ((gPGL.getD 246 []), gB 246), ((gPGL.getD 247 []), gB 247), ((gPGL.getD 248 []), gB 248), ((gPGL.getD 249 []), gB 249), ((gPGL.getD 250 []), gB 250)], q.1.all (dok q.2) = true := List.forall_mem_cons.mpr ⟨gd211, List.forall_mem_cons.mpr ⟨gd212, List.forall_mem_cons.mpr ⟨gd213, List.forall_mem_cons.mpr ⟨gd214, List.forall_mem_cons.mpr ⟨gd215, List.forall_mem_cons.mpr ⟨gd216, List.forall_mem_cons.mpr ⟨gd217, List.forall_mem_cons.mpr ⟨gd218, List.forall_mem_cons.mpr ⟨gd219, List.forall_mem_cons.mpr ⟨gd220, List.forall_mem_cons.mpr ⟨gd221, List.forall_mem_cons.mpr ⟨gd222, List.forall_mem_cons.mpr ⟨gd223, List.forall_mem_cons.mpr ⟨gd224, List.forall_mem_cons.mpr ⟨gd225, List.forall_mem_cons.mpr ⟨gd226, List.forall_mem_cons.mpr ⟨gd227, List.forall_mem_cons.mpr ⟨gd228, List.forall_mem_cons.mpr ⟨gd229, List.forall_mem_cons.mpr ⟨gd230, List.forall_mem_cons.mpr ⟨gd231, List.forall_mem_cons.mpr ⟨gd232, List.forall_mem_cons.mpr ⟨gd233, List.forall_mem_cons.mpr ⟨gd234, List.forall_mem_cons.mpr ⟨gd235, List.forall_mem_cons.mpr ⟨gd236, List.forall_mem_cons.mpr ⟨gd237, List.forall_mem_cons.mpr ⟨gd238, List.forall_mem_cons.mpr ⟨gd239, List.forall_mem_cons.mpr ⟨gd240, List.forall_mem_cons.mpr ⟨gd241, List.forall_mem_cons.mpr ⟨gd242, List.forall_mem_cons.mpr ⟨gd243, List.forall_mem_cons.mpr ⟨gd244, List.forall_mem_cons.mpr ⟨gd245, List.forall_mem_cons.mpr ⟨gd246, List.forall_mem_cons.mpr ⟨gd247, List.forall_mem_cons.mpr ⟨gd248, List.forall_mem_cons.mpr ⟨gd249, List.forall_mem_cons.mpr ⟨gd250, (fun _ h => by cases h)⟩⟩⟩⟩⟩⟩⟩⟩⟩⟩⟩⟩⟩⟩⟩⟩⟩⟩⟩⟩⟩⟩⟩⟩⟩⟩⟩⟩⟩⟩⟩⟩⟩⟩⟩⟩⟩⟩⟩⟩
theorem gdl_251 : ∀ q ∈ [((gPGL.getD 251 []), gB 251), ((gPGL.getD 252 []), gB 252), ((gPGL.getD 253 []), gB 253), ((gPGL.getD 254 []), gB 254), ((gPGL.getD 255 []), gB 255), ((gPGL.getD 256 []), gB 256), ((gPGL.getD 257 []), gB 257), ((gPGL.getD 258 []), gB 258), ((gPGL.getD 259 []), gB 259), ((gPGL.getD 260 []), gB 260), ((gPGL.getD 261 []), gB 261), ((gPGL.getD 262 []), gB 262), ((gPGL.getD 263 []), gB 263), ((gPGL.getD 264 []), gB 264), ((gPGL.getD 265 []), gB 265), ((gPGL.getD 266 []), gB 266), ((gPGL.getD 267 []), gB 267), ((gPGL.getD 268 []), gB 268), ((gPGL.getD 269 []), gB 269), ((gPGL.getD 270 []), gB 270), ((gPGL.getD 271 []), gB 271), ((gPGL.getD 272 []), gB 272), ((gPGL.getD 273 []), gB 273), ((gPGL.getD 274 []), gB 274), ((gPGL.getD 275 []), gB 275), ((gPGL.getD 276 []), gB 276), ((gPGL.getD 277 []), gB 277), ((gPGL.getD 278 []), gB 278), ((gPGL.getD 279 []), gB 279), ((gPGL.getD 280 []), gB 280), ((gPGL.getD 281 []), gB 281), ((gPGL.getD 282 []), gB 282), ((gPGL.getD 283 []), gB 283), ((gPGL.getD 284 []), gB 284), ((gPGL.getD 285 []), gB 285), ((gPGL.getD 286 []), gB 286), ((gPGL.getD 287 []), gB 287), ((gPGL.getD 288 []), gB 288), ((gPGL.getD 289 []), gB 289), ((gPGL.getD 290 []), gB 290)], q.1.all (dok q.2) = true := List.forall_mem_cons.mpr ⟨gd251, List.forall_mem_cons.mpr ⟨gd252, List.forall_mem_cons.mpr ⟨gd253, List.forall_mem_cons.mpr ⟨gd254, List.forall_mem_cons.mpr ⟨gd255, List.forall_mem_cons.mpr ⟨gd256, List.forall_mem_cons.mpr ⟨gd257, List.forall_mem_cons.mpr ⟨gd258, List.forall_mem_cons.mpr ⟨gd259, List.forall_mem_cons.mpr ⟨gd260, List.forall_mem_cons.mpr ⟨gd261, List.forall_mem_cons.mpr ⟨gd262, List.forall_mem_cons.mpr ⟨gd263, List.forall_mem_cons.mpr ⟨gd264, List.forall_mem_cons.mpr ⟨gd265, List.forall_mem_cons.mpr ⟨gd266, List.forall_mem_cons.mpr ⟨gd267, List.forall_mem_cons.mpr ⟨gd268, List.forall_mem_cons.mpr ⟨gd269, List.forall_mem_cons.mpr ⟨gd270, List.forall_mem_cons.mpr ⟨gd271, List.forall_mem_cons.mpr ⟨gd272, List.forall_mem_cons.mpr ⟨gd273, List.forall_mem_cons.mpr ⟨gd274, List.forall_mem_cons.mpr ⟨gd275, List.forall_mem_cons.mpr ⟨gd276, List.forall_mem_cons.mpr ⟨gd277, List.forall_mem_cons.mpr ⟨gd278, List.forall_mem_cons.mpr ⟨gd279, List.forall_mem_cons.mpr ⟨gd280, List.forall_mem_cons.mpr ⟨gd281, List.forall_mem_cons.mpr ⟨gd282, List.forall_mem_cons.mpr ⟨gd283, List.forall_mem_cons.mpr ⟨gd284, List.forall_mem_cons.mpr ⟨gd285, List.forall_mem_cons.mpr ⟨gd286, List.forall_mem_cons.mpr ⟨gd287, List.forall_mem_cons.mpr ⟨gd288, List.forall_mem_cons.mpr ⟨gd289, List.forall_mem_cons.mpr ⟨gd290, (fun _ h => by cases h)⟩⟩⟩⟩⟩⟩⟩⟩⟩⟩⟩⟩⟩⟩⟩⟩⟩⟩⟩⟩⟩⟩⟩⟩⟩⟩⟩⟩⟩⟩⟩⟩⟩⟩⟩⟩⟩⟩⟩⟩
theorem gdl_291 : ∀ q ∈ [((gPGL.getD 291 []), gB 291), ((gPGL.getD 292 []), gB 292), ((gPGL.getD 293 []), gB 293), ((gPGL.getD 294 []), gB 294), ((gPGL.getD 295 []), gB 295), ((gPGL.getD 296 []), gB 296), ((gPGL.getD 297 []), gB 297), ((gPGL.getD 298 []), gB 298), ((gPGL.getD 299 []), gB 299), ((gPGL.getD 300 []), gB 300), ((gPGL.getD 301 []), gB 301), ((gPGL.getD 302 []), gB 302), ((gPGL.getD 303 []), gB 303), ((gPGL.getD 304 []), gB 304), ((gPGL.getD 305 []), gB 305), ((gPGL.getD 306 []), gB 306), ((gPGL.getD 307 []), gB 307), ((gPGL.getD 308 []), gB 308), ((gPGL.getD 309 []), gB 309), ((gPGL.getD 310 []), gB 310), ((gPGL.getD 311 []), gB 311), ((gPGL.getD 312 []), gB 312)], q.1.all (dok q.2) = true := List.forall_mem_cons.mpr ⟨gd291, List.forall_mem_cons.mpr ⟨gd292, List.forall_mem_cons.mpr ⟨gd293, List.forall_mem_cons.mpr ⟨gd294, List.forall_mem_cons.mpr ⟨gd295, List.forall_mem_cons.mpr ⟨gd296, List.forall_mem_cons.mpr ⟨gd297, List.forall_mem_cons.mpr ⟨gd298, List.forall_mem_cons.mpr ⟨gd299, List.forall_mem_cons.mpr ⟨gd300, List.forall_mem_cons.mpr ⟨gd301, List.forall_mem_cons.mpr ⟨gd302, List.forall_mem_cons.mpr ⟨gd303, List.forall_mem_cons.mpr ⟨gd304, List.forall_mem_cons.mpr ⟨gd305, List.forall_mem_cons.mpr ⟨gd306, List.forall_mem_cons.mpr ⟨gd307, List.forall_mem_cons.mpr ⟨gd308, List.forall_mem_cons.mpr ⟨gd309, List.forall_mem_cons.mpr ⟨gd310, List.forall_mem_cons.mpr ⟨gd311, List.forall_mem_cons.mpr ⟨gd312, (fun _ h => by cases h)⟩⟩⟩⟩⟩⟩⟩⟩⟩⟩⟩⟩⟩⟩⟩⟩⟩⟩⟩⟩⟩⟩
theorem gd_all {c : Nat} (h1 : 11 ≤ c) (h2 : c < 313) : ∀ q ∈ gPGL.getD c [], dok (gB c) q = true := by
  rcases Nat.lt_or_ge c 51 with h | h
  · exact List.all_eq_true.mp (gdl_11 (gPGL.getD c [], gB c) (show (gPGL.getD c [], gB c) ∈ ((List.range 51).drop 11).map (fun i => ((gPGL.getD i [], gB i) : List (Nat × Instr) × ByteArray)) from List.mem_map.mpr ⟨c, in_drop (by omega) (by omega), rfl⟩))
  rcases Nat.lt_or_ge c 91 with h | h
  · exact List.all_eq_true.mp (gdl_51 (gPGL.getD c [], gB c) (show (gPGL.getD c [], gB c) ∈ ((List.range 91).drop 51).map (fun i => ((gPGL.getD i [], gB i) : List (Nat × Instr) × ByteArray)) from List.mem_map.mpr ⟨c, in_drop (by omega) (by omega), rfl⟩))
  rcases Nat.lt_or_ge c 131 with h | h
  · exact List.all_eq_true.mp (gdl_91 (gPGL.getD c [], gB c) (show (gPGL.getD c [], gB c) ∈ ((List.range 131).drop 91).map (fun i => ((gPGL.getD i [], gB i) : List (Nat × Instr) × ByteArray)) from List.mem_map.mpr ⟨c, in_drop (by omega) (by omega), rfl⟩))
  rcases Nat.lt_or_ge c 171 with h | h
  · exact List.all_eq_true.mp (gdl_131 (gPGL.getD c [], gB c) (show (gPGL.getD c [], gB c) ∈ ((List.range 171).drop 131).map (fun i => ((gPGL.getD i [], gB i) : List (Nat × Instr) × ByteArray)) from List.mem_map.mpr ⟨c, in_drop (by omega) (by omega), rfl⟩))
  rcases Nat.lt_or_ge c 211 with h | h
  · exact List.all_eq_true.mp (gdl_171 (gPGL.getD c [], gB c) (show (gPGL.getD c [], gB c) ∈ ((List.range 211).drop 171).map (fun i => ((gPGL.getD i [], gB i) : List (Nat × Instr) × ByteArray)) from List.mem_map.mpr ⟨c, in_drop (by omega) (by omega), rfl⟩))
  rcases Nat.lt_or_ge c 251 with h | h
  · exact List.all_eq_true.mp (gdl_211 (gPGL.getD c [], gB c) (show (gPGL.getD c [], gB c) ∈ ((List.range 251).drop 211).map (fun i => ((gPGL.getD i [], gB i) : List (Nat × Instr) × ByteArray)) from List.mem_map.mpr ⟨c, in_drop (by omega) (by omega), rfl⟩))
  rcases Nat.lt_or_ge c 291 with h | h
  · exact List.all_eq_true.mp (gdl_251 (gPGL.getD c [], gB c) (show (gPGL.getD c [], gB c) ∈ ((List.range 291).drop 251).map (fun i => ((gPGL.getD i [], gB i) : List (Nat × Instr) × ByteArray)) from List.mem_map.mpr ⟨c, in_drop (by omega) (by omega), rfl⟩))
  exact List.all_eq_true.mp (gdl_291 (gPGL.getD c [], gB c) (show (gPGL.getD c [], gB c) ∈ ((List.range 313).drop 291).map (fun i => ((gPGL.getD i [], gB i) : List (Nat × Instr) × ByteArray)) from List.mem_map.mpr ⟨c, in_drop (by omega) (by omega), rfl⟩))
/-- an entry's own shape -/
def rshape (q : Nat × Nat × Nat × Nat × Nat) : Bool := match q.2.2.2.2 with
  | 10 => Nat.ble 11 q.1 && Nat.blt q.1 313 && Nat.blt q.2.2.1 14 && decide (clName q.2.2.1 = (gY q.1).cls) && q.2.1 == gNP q.1 + 1
  | 11 => Nat.ble 11 q.1 && Nat.blt q.1 313 && Nat.blt q.2.2.1 14 && decide (clName q.2.2.1 = (gY q.1).cls) && q.2.1 == gNP q.1 + 1
  | 12 => Nat.ble 11 q.1 && Nat.blt q.1 313 && q.2.2.1 == 99 && q.2.1 == gNP q.1
  | 13 => Nat.ble 11 q.1 && Nat.blt q.1 313 && q.2.2.1 == 99 && q.2.1 == gNP q.1
  | 14 => Nat.ble 11 q.1 && Nat.blt q.1 313 && q.2.2.1 == 99 && q.2.1 == gNP q.1 + 1 && decide ((gY q.1).name = "<init>") && decide (gRt q.1 = none)
  | 15 => Nat.ble 11 q.1 && Nat.blt q.1 313 && q.2.2.1 == 99 && q.2.1 == gNP q.1 + 1 && decide ((gY q.1).name = "<init>") && decide (gRt q.1 = none)
  | 16 => Nat.ble 11 q.1 && Nat.blt q.1 313 && q.2.2.1 == 1 && q.2.1 == gNP q.1 + 1 && decide ((gY q.1).name ≠ "<init>")
  | 17 => Nat.ble 11 q.1 && Nat.blt q.1 313 && q.2.2.1 == 1 && q.2.1 == gNP q.1 + 1 && (decide (gY 269 = ⟨RJ5, (gY q.1).name, (gY q.1).desc⟩) || decide (gY 276 = ⟨RJ5, (gY q.1).name, (gY q.1).desc⟩) || decide (gY 274 = ⟨RJ5, (gY q.1).name, (gY q.1).desc⟩))
  | 21 => Nat.ble 11 q.1 && Nat.blt q.1 313 && q.2.2.1 == 1 && q.2.1 == gNP q.1 + 1 && decide ((gY q.1).cls = RJ5)
  | 18 => q.1 == 0 && q.2.1 == 1 && q.2.2.1 == 99
  | 19 => q.1 == 1 && q.2.1 == 5
  | 20 => q.1 == 2 && q.2.1 == 1 && (q.2.2.2.1 == 20 || q.2.2.2.1 == 22)
  | _ => true
theorem r_all : gRL.all (fun l => l.all (fun e => rshape e.2)) = true := by decide +kernel
theorem r_shape {mi idx : Nat} {q : Nat × Nat × Nat × Nat × Nat} (h : gRS mi idx = some q) : rshape q = true := by
  have h1 := lookup_mem h
  have h2 := List.all_eq_true.mp r_all
  have h3 : gRL.getD (gOW mi) [] ∈ gRL ∨ gRL.getD (gOW mi) [] = [] := by
    rw [List.getD_eq_getElem?_getD]
    cases e : gRL[gOW mi]? with
    | none => exact Or.inr rfl
    | some l => exact Or.inl (List.mem_of_getElem? e)
  rcases h3 with h3 | h3
  · exact List.all_eq_true.mp (h2 _ h3) _ h1
  · rw [h3] at h1; cases h1
theorem obj_code : Cond.code Lib.objectInit ⟨#[0xb1]⟩ 1 none ∈ lw_tbl := hint_mem (i := 193) (by decide +kernel)
/-- 'selects' of a private method on an object of a class below -/
theorem sel_priv {C : String} {y x' y' : MethodName} {s : State} {args : Array Value} (hy : y.cls ≠ "java/lang/invoke/MethodHandle" ∧ y.cls ≠ "java/lang/invoke/VarHandle") (hcls : y'.cls = y.cls) (h17 : (Cond.selects C x' y').before args s = true) (hpriv : (Cond.privateMethod y).before args s = true) (hinst : (Cond.instanceMethod y).before args s = true) : (Cond.selects C y y).before args s = true := by
  obtain ⟨c, r, m', hc, -, hn', -, mk', hmk', hni⟩ := Cond.selects_spec h17
  obtain ⟨mk, methM, hnamed, hmethM, -, -⟩ := Cond.instanceMethod_spec hinst
  have hfound : s.methodFound? y.cls y.name y.desc = some mk := State.methodFound?_of_named hnamed hy
  have e : mk.cls = m'.cls := by
    have a := findClass_of_methodNamed hnamed
    have b := findClass_of_methodNamed hn'
    rw [hcls] at b
    exact Option.some.inj (a.symm.trans b)
  have hsel : selectMethod {} s.vm c mk = .method mk := selectMethod_private hmethM (Cond.privateMethod_at hpriv mk methM hnamed hmethM)
  simp only [Cond.before, Cond.holds, Cond.value, hc, hfound, hnamed, hsel, e, hmk']
  simp; exact hni
theorem sel_gv : Cond.selects RJ4 ⟨RJ5, (gY 276).name, (gY 276).desc⟩ (gY 276) ∈ lw_tbl := hint_mem (i := 1887) (by decide +kernel)
/-- what a callee is told, and what it tells -/
def cPc (s0 : State) (D : va_G) (μ : jM) (as : List Value) : Array Value → State → Prop := fun a U => a = as.toArray ∧ s0.WarmedH U.vm ∧ Hok s0 D μ U.heap
def cQc (s0 : State) (D : va_G) (r : Option Value × jM) : Array Value → State → Outcome → State → Prop := fun _ _ o t => o = .returned r.1 ∧ Hok s0 D r.2 t.heap
def jroom (d mc ms : Nat) : Room := { frames := d, cells := mc, slots := ms, locals := 33 * d }
def CMet (l : Launch) (s0 : State) (D : va_G) (c d : Nat) (as : List Value) (μ : jM) (r : Option Value × jM) : Prop :=
  Met l (gY c) [gCode c] (jroom d (jsz r.2 - jsz μ) (jsl r.2 - jsl μ)) (cPc s0 D μ as) (cQc s0 D r) (jsz r.2 - jsz μ) (jsl r.2 - jsl μ) (oldA s0)
theorem cPc_blind {s0 : State} {D : va_G} {μ : jM} {as : List Value} : FrameBlind (cPc s0 D μ as) := fun a U g mk h => h
/-- what a call of the small machine tells of its entry -/
theorem jinv_inv {u pc : Nat} {r : Option (Nat × Nat × Nat × Nat × Nat)} {ls st : List Value} {μ : jM} {cc : Nat} {as rest : List Value} (h : jinv u r pc ls st μ = some (.inr (.inr (cc, as, rest)))) : ∃ q, r = some q ∧ cc = q.1 ∧ juse q.2.2.2.2 = u ∧
    (3 ≤ cc → (rest.map fun v => v.category).sum ≤ 8 ∧ as.all jcat1 = true ∧ as.length = q.2.1 ∧ st = as.reverse ++ rest ∧ (q.2.2.1 ≠ 99 → ∃ a as' t, as = .ref a :: as' ∧ jty μ a = some t ∧ (t.1 = q.2.2.1 ∨ (t.1 = 40 ∧ q.2.2.1 = 0))) ∧ (u = 3 → ∃ a as', as = .ref a :: as')) ∧
    (cc = 0 → ∃ a, as = [] ∧ st = .ref a :: rest) ∧
    (cc = 1 → ∃ v w sp dp n μ', as = [v, .int sp, w, .int dp, .int n] ∧ st = .int n :: .int dp :: w :: .int sp :: v :: rest ∧ jcp μ v sp w dp n = some μ') ∧
    (cc = 2 → ∃ v t, as = [v] ∧ st = v :: rest ∧ jat μ v = some t ∧ t.2.1 = q.2.2.2.1 ∧ (t.2.1 = 20 ∨ t.2.1 = 22)) ∧ ((st.drop q.2.1).map fun v => v.category).sum ≤ 8 := by
  simp only [jinv, Option.bind_eq_some_iff] at h
  obtain ⟨q, hr, h⟩ := h
  refine ⟨q, hr, ?_⟩
  split at h
  · rename_i hc
    obtain ⟨h1, h2, h3, h4⟩ := hc
    have est : st = ((st.take q.2.1).reverse).reverse ++ st.drop q.2.1 := by rw [List.reverse_reverse, List.take_append_drop]
    have elen : ((st.take q.2.1).reverse).length = q.2.1 := by rw [List.length_reverse, List.length_take]; omega
    have ecat : ((st.take q.2.1).reverse).all jcat1 = true := by rw [List.all_reverse]; exact h3
    split at h
    · rename_i e0
      split at h
      · rename_i a st'
        cases h
        exact ⟨e0.symm, h1, fun g => by omega, fun _ => ⟨a, rfl, rfl⟩, fun g => by omega, fun g => by omega, h2⟩
      · cases h
    · split at h
      · rename_i e1
        split at h
        · rename_i n dp w sp v st'
          simp only [Option.bind_eq_some_iff] at h
          obtain ⟨μ', h5, h6⟩ := h
          cases h6
          exact ⟨e1.symm, h1, fun g => by omega, fun g => by omega, fun _ => ⟨v, w, sp, dp, n, μ', rfl, rfl, h5⟩, fun g => by omega, h2⟩
        · cases h
      · split at h
        · rename_i e2
          split at h
          · rename_i v st'
            simp only [Option.bind_eq_some_iff] at h
            obtain ⟨t, h5, h6⟩ := h
            split at h6
            · rename_i h7
              cases h6
              exact ⟨e2.symm, h1, fun g => by omega, fun g => by omega, fun g => by omega, fun _ => ⟨v, t, rfl, rfl, h5, h7.1, h7.2⟩, h2⟩
            · cases h6
          · cases h
        · rename_i n0 n1 n2
          split at h
          · rename_i e9
            split at h
            · rename_i e3
              split at h
              · rename_i a as' ea
                cases h
                exact ⟨rfl, h1, fun _ => ⟨h2, ea ▸ ecat, ea ▸ elen, ea ▸ est, fun g => absurd e9 g, fun _ => ⟨a, as', rfl⟩⟩, fun g => absurd g n0, fun g => absurd g n1, fun g => absurd g n2, h2⟩
              · cases h
            · rename_i e3
              cases h
              exact ⟨rfl, h1, fun _ => ⟨h2, ecat, elen, est, fun g => absurd e9 g, fun g => absurd g e3⟩, fun g => absurd g n0, fun g => absurd g n1, fun g => absurd g n2, h2⟩
          · rename_i e9
            split at h
            · rename_i a as' ea
              simp only [Option.bind_eq_some_iff] at h
              obtain ⟨t, h5, h6⟩ := h
              split at h6
              · rename_i h7
                cases h6
                exact ⟨rfl, h1, fun _ => ⟨h2, ea ▸ ecat, ea ▸ elen, ea ▸ est, fun g => ⟨a, as', t, rfl, h5, h7⟩, fun _ => ⟨a, as', rfl⟩⟩, fun g => absurd g n0, fun g => absurd g n1, fun g => absurd g n2, h2⟩
              · cases h6
            · cases h
  · cases h
section SIM
variable {p : Program} {l : Launch} {e : Env} {R : Room} {s0 s : State} {D : va_G} {args0 args : Array Value} {m : MethodId} {below : List Frame} {meth : Method} {c : Code} {H : Heap} {locs : List Loc} {cells slots : Nat} {Q : State → Prop} {d mi pc : Nat} {la : Array Slot} {L st : List Value} {μ : jM}
/-- a receiver's cell -/
theorem recv_cell (C : Cx s0 args0 D p R s m meth c d mi) (hH : Hok s0 D μ H) {a k : Nat} {t : Nat × Nat} (ht : jty μ a = some t) (hk : t.1 = k ∨ (t.1 = 40 ∧ k = 0)) (h14 : k < 14) : ∃ cellB : Cell, H[a]? = some cellB ∧ cellB.vm.isStatics = false ∧ s.vm.findClass (clName k) = some cellB.cls := by
  obtain ⟨k', n⟩ := t
  have hc := (hH.1 a k' n ht).1
  rcases hk with hk | ⟨hk, rfl⟩
  · have hk : k' = k := hk
    subst hk
    obtain ⟨r, hr, cell, q1, q2, q3, q4⟩ := hc.obj (by omega)
    have hKn := C.K.1 k' _ hr
    refine ⟨cell, q1, by rw [q3]; rfl, ?_⟩
    have e : clName k' = r.1 := by unfold clName; rw [hr]; rfl
    rw [e, q2]
    exact hKn.2.1
  · have hk : k' = 40 := hk
    subst hk
    obtain ⟨cell, g1, g2, g3, -⟩ := hc.str.1
    refine ⟨cell, g1, g2, ?_⟩
    rw [C.alike.findClass]
    exact g3
/-- behind a call -/
theorem run_W {mc ms : Nat} {g : JFrame} {rest : List Value} {Qa : State → Outcome → State → Prop} {free : Addr → Prop} (hr : va_Run p l e R s m args below meth c H locs cells slots mc ms g rest Qa free)
    (kk : ∀ (v : Option Value) (st t : State) (L : List Loc), Qa st (.returned v) t → (∀ q ∈ L, free q.base) → W p l e R s m args below meth c t.heap (locs ++ L) (cells + mc) (slots + ms) Q { g with pc := g.pc + 3, stack := v.toList ++ rest }) : W p l e R s m args below meth c H locs cells slots Q g := by
  intro T hT X
  obtain ⟨v, st₀, t, T', L, h0, X', hL, e1, e2, hq, st⟩ := hr T hT X
  obtain ⟨t', a1, b1⟩ := kk v st₀ t L hq hL T' e1 X'
  exact ⟨t', st t' a1, b1⟩

theorem so_call {u idx cc d' : Nat} {i : Instr} {as rest : List Value} {r : Option Value × jM} (C : Cx s0 args0 D p R s m meth c (d' + 1) mi) (hpg : gPG mi pc = some i) (hi : (i = .invokevirtual idx ∧ u = 1) ∨ (i = .invokestatic idx ∧ u = 2) ∨ (i = .invokespecial idx ∧ u = 3)) (hL : LocOk la (gML mi) L) (hH : Hok s0 D μ H) (hq : ∀ q ∈ locs, s0.heap.size ≤ q.base)
    (hs : jinv u (gRS mi idx) pc L st μ = some (.inr (.inr (cc, as, rest)))) (h3 : 3 ≤ cc) (hM : CMet l s0 D cc d' as μ r) (hc : cells + (jsz r.2 - jsz μ) ≤ R.cells) (hsl : slots + (jsl r.2 - jsl μ) ≤ R.slots)
    (kk : ∀ (H' : Heap) (locs' : List Loc), Hok s0 D r.2 H' → (∀ q ∈ locs', s0.heap.size ≤ q.base) → W p l e R s m args below meth c H' locs' (cells + (jsz r.2 - jsz μ)) (slots + (jsl r.2 - jsl μ)) Q (F0 m (pc + 3) la (r.1.toList ++ rest))) : W p l e R s m args below meth c H locs cells slots Q (F0 m pc la st) := by
  obtain ⟨q, hr, rfl, hu, h5, -⟩ := jinv_inv hs
  obtain ⟨hsum, hcat, hlen, hst, hrecv, hini3⟩ := h5 h3
  have sh := r_shape hr
  have hw := C.res hr
  have hf : cells + (jsz r.2 - jsz μ) ≤ R.cells ∧ slots + (jsl r.2 - jsl μ) ≤ R.slots := ⟨hc, hsl⟩
  -- behind it
  have fin : ∀ {args' : Array Value}, va_Run p l e R s m args below meth c H locs cells slots (jsz r.2 - jsz μ) (jsl r.2 - jsl μ) (F0 m pc la st) rest (cQc s0 D r args') (oldA s0) → W p l e R s m args below meth c H locs cells slots Q (F0 m pc la st) := by
    intro args' hrun
    refine run_W hrun (fun v st₀ t L2 hv hL2 => ?_)
    obtain ⟨e1, e2⟩ := hv
    have e1 : v = r.1 := by injection e1
    rw [e1]
    refine kk t.heap (locs ++ L2) e2 (fun y hy => ?_)
    rcases List.mem_append.mp hy with g | g
    · exact hq y g
    · exact hL2 y g
  obtain ⟨a, na, ka, ca, z⟩ := q
  have rng : (11 ≤ a ∧ a < 313) → mshape a = true ∧ mparms a = true ∧ gCode a ∈ lw_tbl := fun h => ⟨m_shape h.1 h.2, m_parms h.1 h.2, gcw_all h.1 h.2⟩
  have hS : CallFix p m c (gB mi) (gML mi) s args [] (gON (gOW mi)) := ⟨C.1, C.2.1, C.2.2.1, C.2.2.2.2.1, fun w h => by cases h⟩
  have hsz : (F0 m pc la st).locals.size = gML mi := hL.2.1
  have hW : 2 * (F0 m pc la st).monitorRoom + (rest.map fun v => v.category).sum ≤ 8 := by show 2 * 0 + _ ≤ 8; omega
  have hfr : (jroom d' (jsz r.2 - jsz μ) (jsl r.2 - jsl μ)).frames + 1 ≤ R.frames := C.2.2.2.2.2.2.2.2.1
  have pre : ∀ U : State, U.heap = H → s.WarmedH U.vm → cPc s0 D μ as as.toArray U := fun U hU hW => ⟨rfl, State.WarmedH.trans C.2.2.2.2.2.1 hW, by rw [hU]; exact hH⟩
  have hlo : ∀ {n : Nat}, n ≤ 14 → 8 + (n + 11) + (jroom d' (jsz r.2 - jsz μ) (jsl r.2 - jsl μ)).locals ≤ R.locals := by
    intro n hn
    have := C.2.2.2.2.2.2.2.2.2.1
    show 8 + (n + 11) + 33 * d' ≤ R.locals
    omega
  -- what is said of the callee
  have callee : (11 ≤ a ∧ a < 313) → (gML a ≤ 14 ∧ (gY a).cls ≠ "java/lang/invoke/MethodHandle" ∧ (gY a).cls ≠ "java/lang/invoke/VarHandle") ∧ (Cond.code (gY a) (gB a) (gML a) (gRt a)).before args s = true ∧ (∀ sig, parseMethodDescriptor (gY a).desc = some sig → gNP a = sig.parameters.length) ∧ (∀ w ∈ [gCode a], ∀ (a' : Array Value) (U : State), s.WarmedH U.vm → w.before a' U = true) := by
    intro h
    obtain ⟨m1, m2, m3⟩ := rng h
    unfold mshape at m1
    simp only [Bool.and_eq_true, decide_eq_true_eq] at m1
    have hcw : (Cond.code (gY a) (gB a) (gML a) (gRt a)).before args s = true := C.word m3 rfl
    refine ⟨⟨Nat.le_of_ble_eq_true m1.1.2, m1.1.1.1.2, m1.1.1.2⟩, hcw, fun sig hsig => ?_, fun w hw a' U hU => ?_⟩
    · have m2 := of_decide_eq_true m2
      rw [hsig] at m2
      exact (Option.some.inj m2).symm
    · rw [List.mem_singleton] at hw
      rw [hw]
      exact word_at hU (good_of_word (w := gCode a) rfl) hcw
  have hcin : Cond.code (gY a) (gB a) (gML a) (gRt a) ∈ [gCode a] := List.mem_singleton.mpr rfl
  have nestw : ∀ {w : Cond}, True → True := fun _ => trivial
  have hz : z = 10 ∨ z = 11 ∨ z = 12 ∨ z = 13 ∨ z = 14 ∨ z = 15 ∨ z = 16 ∨ z = 17 ∨ z = 18 ∨ z = 19 ∨ z = 20 ∨ z = 21 := by
    have hu2 : juse z ≠ 0 := by
      intro h0
      have hu : juse z = u := hu
      rw [h0] at hu
      rcases hi with h | h | h <;> (rw [h.2] at hu; cases hu)
    unfold juse at hu2
    split at hu2
    · omega
    · split at hu2
      · omega
      · split at hu2
        · omega
        · exact absurd rfl hu2
  rcases hz with rfl | rfl | rfl | rfl | rfl | rfl | rfl | rfl | rfl | rfl | rfl | rfl
  · simp only [rshape, Bool.and_eq_true, decide_eq_true_eq, beq_iff_eq] at sh
    obtain ⟨⟨⟨⟨s1, s2⟩, s3⟩, s4⟩, s5⟩ := sh
    have s1 := Nat.le_of_ble_eq_true s1
    have s2 : a < 313 := Nat.le_of_ble_eq_true s2
    have s3 : ka < 14 := Nat.le_of_ble_eq_true s3
    obtain ⟨⟨c1, c2, c3⟩, c4, c5, c6⟩ := callee ⟨s1, s2⟩
    obtain ⟨b, as', t, rfl, hb, hbk⟩ := hrecv (by show ka ≠ 99; omega)
    have hst : st = as'.reverse ++ .ref b :: rest := by rw [hst]; simp
    have hn : as'.length = gNP a := by simp only [List.length_cons] at hlen; omega
    have hcell := recv_cell C hH hb hbk s3
    rw [s4] at hcell
    have hi : i = .invokevirtual idx := by rcases hi with h | h | h <;> first | exact h.1 | (rw [h.2] at hu; simp [juse] at hu)
    subst hi
    exact fin (va_runV (C := (gY a).cls) hS hM ⟨⟨rfl, rfl, hfr, hlo c1, c6, hcin, c4, (C.word (hw _ (List.mem_cons_of_mem _ (List.mem_cons_of_mem _ (List.mem_cons_of_mem _ List.mem_cons_self)))) rfl), ⟨c2, c3⟩, c5, (C.word (hw _ List.mem_cons_self) rfl)⟩, (C.word (hw _ (List.mem_cons_of_mem _ List.mem_cons_self)) rfl), (C.word (hw _ (List.mem_cons_of_mem _ (List.mem_cons_of_mem _ List.mem_cons_self))) rfl)⟩ ⟨cPc_blind, hcell, pre⟩ rfl hn hsz hst hW (C.dec hpg rfl) hf)
  · simp only [rshape, Bool.and_eq_true, decide_eq_true_eq, beq_iff_eq] at sh
    obtain ⟨⟨⟨⟨s1, s2⟩, s3⟩, s4⟩, s5⟩ := sh
    have s1 := Nat.le_of_ble_eq_true s1
    have s2 : a < 313 := Nat.le_of_ble_eq_true s2
    have s3 : ka < 14 := Nat.le_of_ble_eq_true s3
    obtain ⟨⟨c1, c2, c3⟩, c4, c5, c6⟩ := callee ⟨s1, s2⟩
    obtain ⟨b, as', t, rfl, hb, hbk⟩ := hrecv (by show ka ≠ 99; omega)
    have hst : st = as'.reverse ++ .ref b :: rest := by rw [hst]; simp
    have hn : as'.length = gNP a := by simp only [List.length_cons] at hlen; omega
    have hcell := recv_cell C hH hb hbk s3
    rw [s4] at hcell
    have hi : i = .invokevirtual idx := by rcases hi with h | h | h <;> first | exact h.1 | (rw [h.2] at hu; simp [juse] at hu)
    subst hi
    exact fin (va_runVN (C := (gY a).cls) hS hM ⟨⟨⟨rfl, rfl, hfr, hlo c1, c6, hcin⟩, c4, (C.word (hw _ (List.mem_cons_of_mem _ (List.mem_cons_of_mem _ (List.mem_cons_of_mem _ List.mem_cons_self)))) rfl), ⟨c2, c3⟩, c5, (va_Nw.use rfl (va_Nw.warmM C.2.2.2.2.2.1 (va_Nw.of rfl (C.w0 (hw _ List.mem_cons_self)))))⟩, (C.word (hw _ (List.mem_cons_of_mem _ List.mem_cons_self)) rfl), (C.word (hw _ (List.mem_cons_of_mem _ (List.mem_cons_of_mem _ List.mem_cons_self))) rfl)⟩ ⟨cPc_blind, hcell, pre⟩ rfl hn hsz hst hW (C.dec hpg rfl) hf)
  · simp only [rshape, Bool.and_eq_true, decide_eq_true_eq, beq_iff_eq] at sh
    obtain ⟨⟨⟨s1, s2⟩, s3⟩, s5⟩ := sh
    have s1 := Nat.le_of_ble_eq_true s1
    have s2 : a < 313 := Nat.le_of_ble_eq_true s2
    obtain ⟨⟨c1, c2, c3⟩, c4, c5, c6⟩ := callee ⟨s1, s2⟩
    have hn : as.length = gNP a := hlen.trans s5
    have hi : i = .invokestatic idx := by rcases hi with h | h | h <;> first | exact h.1 | (rw [h.2] at hu; simp [juse] at hu)
    subst hi
    exact fin (va_runS hS hM ⟨⟨rfl, rfl, hfr, hlo c1, c6, hcin, c4, (C.word (hw _ (List.mem_cons_of_mem _ (List.mem_cons_of_mem _ List.mem_cons_self))) rfl), ⟨c2, c3⟩, c5, (C.word (hw _ List.mem_cons_self) rfl)⟩, (C.word (hw _ (List.mem_cons_of_mem _ List.mem_cons_self)) rfl)⟩ ⟨cPc_blind, pre⟩ rfl hn hsz hst hW (C.dec hpg rfl) hf)
  · simp only [rshape, Bool.and_eq_true, decide_eq_true_eq, beq_iff_eq] at sh
    obtain ⟨⟨⟨s1, s2⟩, s3⟩, s5⟩ := sh
    have s1 := Nat.le_of_ble_eq_true s1
    have s2 : a < 313 := Nat.le_of_ble_eq_true s2
    obtain ⟨⟨c1, c2, c3⟩, c4, c5, c6⟩ := callee ⟨s1, s2⟩
    have hn : as.length = gNP a := hlen.trans s5
    have hi : i = .invokestatic idx := by rcases hi with h | h | h <;> first | exact h.1 | (rw [h.2] at hu; simp [juse] at hu)
    subst hi
    exact fin (va_runSN hS hM ⟨⟨⟨rfl, rfl, hfr, hlo c1, c6, hcin⟩, c4, (C.word (hw _ (List.mem_cons_of_mem _ (List.mem_cons_of_mem _ List.mem_cons_self))) rfl), ⟨c2, c3⟩, c5, (va_Nw.use rfl (va_Nw.warmM C.2.2.2.2.2.1 (va_Nw.of rfl (C.w0 (hw _ List.mem_cons_self)))))⟩, (C.word (hw _ (List.mem_cons_of_mem _ List.mem_cons_self)) rfl), trivial⟩ ⟨cPc_blind, pre⟩ rfl hn hsz hst hW (C.dec hpg rfl) hf)
  · simp only [rshape, Bool.and_eq_true, decide_eq_true_eq, beq_iff_eq] at sh
    obtain ⟨⟨⟨⟨⟨s1, s2⟩, s3⟩, s5⟩, s6⟩, s7⟩ := sh
    have s1 := Nat.le_of_ble_eq_true s1
    have s2 : a < 313 := Nat.le_of_ble_eq_true s2
    obtain ⟨⟨c1, c2, c3⟩, c4, c5, c6⟩ := callee ⟨s1, s2⟩
    have hi : i = .invokespecial idx ∧ u = 3 := by rcases hi with h | h | h <;> first | exact h | (rw [h.2] at hu; simp [juse] at hu)
    obtain ⟨b, as', rfl⟩ := hini3 hi.2
    have hst : st = as'.reverse ++ .ref b :: rest := by rw [hst]; simp
    have hn : as'.length = gNP a := by simp only [List.length_cons] at hlen; omega
    obtain ⟨rfl, -⟩ := hi
    rw [s7] at c4 hcin
    exact fin (va_runI hS hM ⟨⟨rfl, rfl, hfr, hlo c1, c6, hcin, c4, (C.word (hw _ (List.mem_cons_of_mem _ (List.mem_cons_of_mem _ List.mem_cons_self))) rfl), ⟨c2, c3⟩, c5, (C.word (hw _ List.mem_cons_self) rfl)⟩, s6, (C.word (hw _ (List.mem_cons_of_mem _ List.mem_cons_self)) rfl)⟩ ⟨cPc_blind, pre⟩ rfl hn hsz hst hW (C.dec hpg rfl) hf)
  · simp only [rshape, Bool.and_eq_true, decide_eq_true_eq, beq_iff_eq] at sh
    obtain ⟨⟨⟨⟨⟨s1, s2⟩, s3⟩, s5⟩, s6⟩, s7⟩ := sh
    have s1 := Nat.le_of_ble_eq_true s1
    have s2 : a < 313 := Nat.le_of_ble_eq_true s2
    obtain ⟨⟨c1, c2, c3⟩, c4, c5, c6⟩ := callee ⟨s1, s2⟩
    have hi : i = .invokespecial idx ∧ u = 3 := by rcases hi with h | h | h <;> first | exact h | (rw [h.2] at hu; simp [juse] at hu)
    obtain ⟨b, as', rfl⟩ := hini3 hi.2
    have hst : st = as'.reverse ++ .ref b :: rest := by rw [hst]; simp
    have hn : as'.length = gNP a := by simp only [List.length_cons] at hlen; omega
    obtain ⟨rfl, -⟩ := hi
    rw [s7] at c4 hcin
    exact fin (va_runIN hS hM ⟨⟨⟨rfl, rfl, hfr, hlo c1, c6, hcin⟩, c4, (C.word (hw _ (List.mem_cons_of_mem _ (List.mem_cons_of_mem _ List.mem_cons_self))) rfl), ⟨c2, c3⟩, c5, (va_Nw.use rfl (va_Nw.warmM C.2.2.2.2.2.1 (va_Nw.of rfl (C.w0 (hw _ List.mem_cons_self)))))⟩, s6, (C.word (hw _ (List.mem_cons_of_mem _ List.mem_cons_self)) rfl)⟩ ⟨cPc_blind, pre⟩ rfl hn hsz hst hW (C.dec hpg rfl) hf)
  · simp only [rshape, Bool.and_eq_true, decide_eq_true_eq, beq_iff_eq] at sh
    obtain ⟨⟨⟨⟨s1, s2⟩, s3⟩, s5⟩, s6⟩ := sh
    have s1 := Nat.le_of_ble_eq_true s1
    have s2 : a < 313 := Nat.le_of_ble_eq_true s2
    have s3 : ka = 1 := s3
    subst s3
    obtain ⟨⟨c1, c2, c3⟩, c4, c5, c6⟩ := callee ⟨s1, s2⟩
    obtain ⟨b, as', t, rfl, hb, hbk⟩ := hrecv (by show (1 : Nat) ≠ 99; decide)
    have hst : st = as'.reverse ++ .ref b :: rest := by rw [hst]; simp
    have hn : as'.length = gNP a := by simp only [List.length_cons] at hlen; omega
    have hcell := recv_cell C hH hb (k := 1) hbk (by decide)
    have hi : i = .invokespecial idx := by rcases hi with h | h | h <;> first | exact h.1 | (rw [h.2] at hu; simp [juse] at hu)
    subst hi
    have hat : ClassAt s "java/lang/StringBuilder" (D.1 1) := (C.K.1 1 _ rfl).2
    exact fin (va_runSU (C := "java/lang/StringBuilder") hat hS hM ⟨⟨rfl, rfl, hfr, hlo c1, c6, hcin⟩, (C.word (hw _ List.mem_cons_self) rfl), (C.word (hw _ (List.mem_cons_of_mem _ List.mem_cons_self)) rfl), (C.word (hw _ (List.mem_cons_of_mem _ (List.mem_cons_of_mem _ List.mem_cons_self))) rfl), (C.word (hw _ (List.mem_cons_of_mem _ (List.mem_cons_of_mem _ (List.mem_cons_of_mem _ List.mem_cons_self)))) rfl), (C.word (hw _ (List.mem_cons_of_mem _ (List.mem_cons_of_mem _ (List.mem_cons_of_mem _ (List.mem_cons_of_mem _ List.mem_cons_self))))) rfl), c4, s6, c5⟩ ⟨cPc_blind, hcell, pre⟩ rfl hn hsz hst hW (C.dec hpg rfl) hf)
  · simp only [rshape, Bool.and_eq_true, decide_eq_true_eq, beq_iff_eq, Bool.or_eq_true] at sh
    obtain ⟨⟨⟨⟨s1, s2⟩, s3⟩, s5⟩, s6⟩ := sh
    have s1 := Nat.le_of_ble_eq_true s1
    have s2 : a < 313 := Nat.le_of_ble_eq_true s2
    have s3 : ka = 1 := s3
    subst s3
    obtain ⟨⟨c1, c2, c3⟩, c4, c5, c6⟩ := callee ⟨s1, s2⟩
    obtain ⟨b, as', t, rfl, hb, hbk⟩ := hrecv (by show (1 : Nat) ≠ 99; decide)
    have hst : st = as'.reverse ++ .ref b :: rest := by rw [hst]; simp
    have hn : as'.length = gNP a := by simp only [List.length_cons] at hlen; omega
    have hcell := recv_cell C hH hb (k := 1) hbk (by decide)
    have hi : i = .invokevirtual idx := by rcases hi with h | h | h <;> first | exact h.1 | (rw [h.2] at hu; simp [juse] at hu)
    subst hi
    have hdecl : va_Decl s ⟨RJ5, (gY a).name, (gY a).desc⟩ := by
      have hins : (Cond.instanceMethod ⟨RJ5, (gY a).name, (gY a).desc⟩).before args s = true := (C.word (hw _ (List.mem_cons_of_mem _ (List.mem_cons_of_mem _ (List.mem_cons_of_mem _ (List.mem_cons_of_mem _ (List.mem_cons_of_mem _ List.mem_cons_self)))))) rfl)
      rcases s6 with (h | h) | h
      · exact va_Decl.of hins (by rw [← h]; exact C.word (gcw_all (c := 269) (by omega) (by omega)) rfl)
      · exact va_Decl.of hins (by rw [← h]; exact C.word (gcw_all (c := 276) (by omega) (by omega)) rfl)
      · exact va_Decl.of hins (by rw [← h]; exact C.word (gcw_all (c := 274) (by omega) (by omega)) rfl)
    exact fin (va_runU (C := "java/lang/StringBuilder") (owner := RJ5) (x := ⟨RJ5, (gY a).name, (gY a).desc⟩) hS hM ⟨⟨rfl, rfl, hfr, hlo c1, c6, hcin⟩, c4, (C.word (hw _ (List.mem_cons_of_mem _ (List.mem_cons_of_mem _ (List.mem_cons_of_mem _ (List.mem_cons_of_mem _ List.mem_cons_self))))) rfl), ⟨by decide, by decide⟩, c5, (C.word (hw _ List.mem_cons_self) rfl), (C.word (hw _ (List.mem_cons_of_mem _ List.mem_cons_self)) rfl), hdecl, (C.word (hw _ (List.mem_cons_of_mem _ (List.mem_cons_of_mem _ List.mem_cons_self))) rfl), (C.word (hw _ (List.mem_cons_of_mem _ (List.mem_cons_of_mem _ (List.mem_cons_of_mem _ List.mem_cons_self)))) rfl)⟩ ⟨cPc_blind, hcell, pre⟩ rfl hn hsz hst hW (C.dec hpg rfl) hf)
  · exfalso
    simp only [rshape, Bool.and_eq_true, beq_iff_eq] at sh
    have h3 : 3 ≤ a := h3
    have := sh.1.1
    omega
  · exfalso
    simp only [rshape, Bool.and_eq_true, beq_iff_eq] at sh
    have h3 : 3 ≤ a := h3
    have := sh.1
    omega
  · exfalso
    simp only [rshape, Bool.and_eq_true, beq_iff_eq] at sh
    have h3 : 3 ≤ a := h3
    have := sh.1.1
    omega
  · simp only [rshape, Bool.and_eq_true, decide_eq_true_eq, beq_iff_eq] at sh
    obtain ⟨⟨⟨⟨s1, s2⟩, s3⟩, s5⟩, s6⟩ := sh
    have s1 := Nat.le_of_ble_eq_true s1
    have s2 : a < 313 := Nat.le_of_ble_eq_true s2
    have s3 : ka = 1 := s3
    subst s3
    obtain ⟨⟨c1, c2, c3⟩, c4, c5, c6⟩ := callee ⟨s1, s2⟩
    obtain ⟨b, as', t, rfl, hb, hbk⟩ := hrecv (by show (1 : Nat) ≠ 99; decide)
    have hst : st = as'.reverse ++ .ref b :: rest := by rw [hst]; simp
    have hn : as'.length = gNP a := by simp only [List.length_cons] at hlen; omega
    have hcell := recv_cell C hH hb (k := 1) hbk (by decide)
    have hi : i = .invokevirtual idx := by rcases hi with h | h | h <;> first | exact h.1 | (rw [h.2] at hu; simp [juse] at hu)
    subst hi
    have hinst : (Cond.instanceMethod (gY a)).before args s = true := (C.word (hw _ (List.mem_cons_of_mem _ (List.mem_cons_of_mem _ (List.mem_cons_of_mem _ List.mem_cons_self)))) rfl)
    have hsel : (Cond.selects "java/lang/StringBuilder" (gY a) (gY a)).before args s = true := sel_priv ⟨c2, c3⟩ (by rw [s6]; rfl) (C.word (args := args) sel_gv rfl) (Cond.privateMethod_warm C.2.2.2.2.2.1 (C.w0 (hw _ (List.mem_cons_of_mem _ (List.mem_cons_of_mem _ List.mem_cons_self))))) hinst
    exact fin (va_runU (C := "java/lang/StringBuilder") (owner := (gY a).cls) (x := gY a) hS hM ⟨⟨rfl, rfl, hfr, hlo c1, c6, hcin⟩, c4, (C.word (hw _ (List.mem_cons_of_mem _ (List.mem_cons_of_mem _ (List.mem_cons_of_mem _ (List.mem_cons_of_mem _ List.mem_cons_self))))) rfl), ⟨c2, c3⟩, c5, (C.word (hw _ List.mem_cons_self) rfl), (C.word (hw _ (List.mem_cons_of_mem _ List.mem_cons_self)) rfl), va_Decl.of hinst c4, hsel, hinst⟩ ⟨cPc_blind, hcell, pre⟩ rfl hn hsz hst hW (C.dec hpg rfl) hf)
/-- Math.min, Math.max: the kit's own rows -/
theorem so_math {idx d' : Nat} {q : Nat × Nat × Nat × Nat × Nat} {x y : Int32} {rest : List Value} (C : Cx s0 args0 D p R s m meth c (d' + 1) mi) (hpg : gPG mi pc = some (.invokestatic idx)) (hr : gRS mi idx = some q) (hz : q.2.2.2.2 = 12) (hq1 : q.1 = 279 ∨ q.1 = 280) (hL : LocOk la (gML mi) L) (hsum : (rest.map fun v => v.category).sum ≤ 8) (hc : cells ≤ R.cells) (hsl : slots ≤ R.slots)
    (kk : W p l e R s m args below meth c H locs cells slots Q (F0 m (pc + 3) la (.int (if q.1 = 279 then (if y < x then y else x) else (if x < y then y else x)) :: rest))) : W p l e R s m args below meth c H locs cells slots Q (F0 m pc la (.int y :: .int x :: rest)) := by
  have hw := C.res hr
  obtain ⟨qa, qb, qc, qd, qz⟩ := q
  have hz : qz = 12 := hz
  subst hz
  have w0 := C.word (args := args) (hw _ List.mem_cons_self) rfl
  have w1 := C.word (args := args) (hw _ (List.mem_cons_of_mem _ List.mem_cons_self)) rfl
  have w2 := C.word (args := args) (hw _ (List.mem_cons_of_mem _ (List.mem_cons_of_mem _ List.mem_cons_self))) rfl
  have hfr : d' + 1 ≤ R.frames := C.2.2.2.2.2.2.2.2.1
  have hlo : 33 * (d' + 1) ≤ R.locals := C.2.2.2.2.2.2.2.2.2.1
  have hml : c.maxLocals = la.size := C.2.2.1.trans hL.2.1.symm
  have hq1 : qa = 279 ∨ qa = 280 := hq1
  rcases hq1 with rfl | rfl
  · have w3 : (Cond.code (gY 279) (gB 279) (gML 279) (gRt 279)).before args s = true := C.word (gcw_all (c := 279) (by omega) (by omega)) rfl
    exact va_mmin C.1 C.2.1 hml C.2.2.2.2.1 w0 w1 w2 w3 (by omega) (by omega) hc hsl (C.dec hpg rfl) kk
  · have w3 : (Cond.code (gY 280) (gB 280) (gML 280) (gRt 280)).before args s = true := C.word (gcw_all (c := 280) (by omega) (by omega)) rfl
    exact va_mmax C.1 C.2.1 hml C.2.2.2.2.1 w0 w1 w2 w3 (by omega) (by omega) hc hsl (C.dec hpg rfl) kk
end SIM
