/-! THE START, as a memory of the small machine -/
section SMEM
variable {s : State} {b : Nat} {A : Nat → Prop} {H : Heap} {ty ty' : FieldType} {a a' n n' j : Nat} {f f' : Nat → Value} {str sar : Nat → Nat}
def sK (str : Nat → Nat) : List Nat := (List.range 18).map str
def sIx (str : Nat → Nat) (a : Nat) : Nat := ((List.range 18).find? (fun j => str j == a)).getD 0
theorem sK_of (hj : j < 18) : str j ∈ sK str := List.mem_map.mpr ⟨j, List.mem_range.mpr hj, rfl⟩
theorem sIx_ok (h : a ∈ sK str) : sIx str a < 18 ∧ str (sIx str a) = a := by
  obtain ⟨j, h1, h2⟩ := List.mem_map.mp h
  unfold sIx
  cases e : (List.range 18).find? (fun j => str j == a) with
  | none =>
    have := List.find?_eq_none.mp e j h1
    rw [h2] at this
    simp at this
  | some k =>
    have h3 := List.find?_some e
    have h4 := List.mem_of_find?_eq_some e
    exact ⟨List.mem_range.mp h4, by simpa using h3⟩
/-- an array's length, and its numbers, read off the heap -/
def csz (H : Heap) (a : Nat) : Nat := match H[a]? with
  | some c => c.slots.size.toInt32.toNatClampNeg
  | none => 0
def vin (v : Option Value) : Int32 := match v with
  | some (.int x) => x
  | _ => 0
def civ (H : Heap) (a j : Nat) : Int32 := if j < csz H a then vin (H[a]?.bind fun c => c.slots[j]?) else 0
theorem vt_sz (h : va_T ty a n f A s H) (hn : n < 2 ^ 31) : csz H a = n := by
  obtain ⟨cell, h1, -, -, -, h5, -⟩ := h
  unfold csz
  rw [h1]
  show cell.slots.size.toInt32.toNatClampNeg = n
  rw [h5]
  exact N_nat hn
theorem vt_iv {g : Nat → Int32} (h : va_T ty a n (fun k => .int (g k)) A s H) (hn : n < 2 ^ 31) (hj : j < n) : civ H a j = g j := by
  have hz := vt_sz h hn
  obtain ⟨cell, h1, -, -, -, -, h6, -⟩ := h
  unfold civ
  rw [if_pos (by rw [hz]; exact hj), h1]
  show vin (cell.slots[j]?) = _
  rw [h6 j hj]
  rfl
theorem vt_lt (h : va_T ty a n f A s s.heap) : a < s.heap.size := by
  obtain ⟨cell, h1, -⟩ := h
  exact (Array.getElem?_eq_some_iff.mp h1).1
/-- of one type -/
theorem vt_ty (h : va_T ty a n f A s H) (h' : va_T ty' a n' f' A s H) : ty = ty' := by
  obtain ⟨cell, h1, h2, -⟩ := h
  obtain ⟨cell', g1, g2, -⟩ := h'
  cases h1.symm.trans g1
  obtain ⟨-, k, hk, comp, e⟩ := h2
  obtain ⟨-, k', hk', comp', e'⟩ := g2
  cases hk.symm.trans hk'
  rw [e] at e'
  cases e'
  rfl
/-- no text is an array -/
theorem vt_no {cC : ClassId} (hc : ClassAt s "java/lang/String" cC) (h : va_T ty a n f A s H) (h' : va_O "java/lang/String" a A s H) : False := by
  obtain ⟨cell, h1, h2, -⟩ := h
  obtain ⟨cell', g1, -, g2, -⟩ := h'
  cases h1.symm.trans g1
  obtain ⟨-, k, hk, comp, e⟩ := h2
  obtain ⟨c1, kC, c2, c3⟩ := hc
  cases c1.symm.trans g2
  cases c2.symm.trans hk
  rw [c3] at e
  cases e
/-- a field has one value -/
theorem of_uni {o nm d : String} {v w : Value} (h : va_OF o nm d v a A s H) (h' : va_OF o nm d w a A s H) : v = w := by
  obtain ⟨cf, k, i, f, cell, h1, -, h2, -, h3, -⟩ := h
  obtain ⟨cf', k', i', f', cell', g1, -, g2, -, g3, -⟩ := h'
  cases h1.symm.trans g1
  cases h2.symm.trans g2
  exact Option.some.inj (h3.symm.trans g3)
/-- what the heap holds at the start -/
def sM (H : Heap) (v1 : Value) (one ten abo b : Nat) (str sar : Nat → Nat) : jM :=
  (fun j => if j < 8 then ([Value.int 1, v1, .int 1, .int 0, .int 8, .ref one, .ref ten, .ref abo] : List Value).getD j .null else .ref (str (j - 8)),
   fun a => if a ∈ sK str then some (40, 0) else if a = one ∨ a = ten ∨ a ∈ sK sar then some (41, csz H a) else if a = abo ∨ a = b then some (42, csz H a) else none,
   fun a j => if a ∈ sK str then 0 else civ H a j,
   fun a _ => if a ∈ sK str then some (sar (sIx str a)) else none, H.size, 0)
/-- what is known of it -/
def sOK (s : State) (D : va_G) (v1 : Value) (one ten abo b L : Nat) (xs : Nat → Int32) (str sar : Nat → Nat) : Prop :=
  va_K D vwCl [] s ∧ jisref v1 = true ∧
  (∀ (j : Nat) (q : String × String × String), gSF[j]? = some q → va_Z q.1 q.2.1 q.2.2 (([Value.int 1, v1, .int 1, .int 0, .int 8, .ref one, .ref ten, .ref abo] : List Value).getD j .null) (oldA s) s s.heap) ∧
  va_T .byte one 100 (fun k => .int (N (48 + k % 10))) (oldA s) s s.heap ∧ va_T .byte ten 100 (fun k => .int (N (48 + k / 10))) (oldA s) s s.heap ∧ va_T .int abo 6 (fun k => .int (abl.getD k 0)) (oldA s) s s.heap ∧
  va_T .int b L (fun k => .int (xs k)) (oldA s) s s.heap ∧ L ≤ 3584 ∧
  ∀ j : Nat, j < 18 → (∀ r : String × Nat × String, gSR[j]? = some r → vk_R r.1 r.2.1 r.2.2 (str j) s) ∧ va_O "java/lang/String" (str j) (oldA s) s s.heap ∧ va_OF "java/lang/String" "coder" "B" (.int 0) (str j) (oldA s) s s.heap ∧ va_OF "java/lang/String" "value" "[B" (.ref (sar j)) (str j) (oldA s) s s.heap ∧ va_T .byte (sar j) (kwl j).length (fun k => .int (N ((kwl j).getD k 0))) (oldA s) s s.heap
end SMEM
section SMEM
variable {s : State} {D : va_G} {v1 : Value} {one ten abo b L a j : Nat} {xs : Nat → Int32} {str sar : Nat → Nat} {ty : FieldType} {n : Nat} {f : Nat → Value}
theorem sOK.cls (h : sOK s D v1 one ten abo b L xs str sar) : ∃ cC, ClassAt s "java/lang/String" cC := ⟨_, (h.1.1 0 _ rfl).2⟩
theorem sOK.ns (h : sOK s D v1 one ten abo b L xs str sar) (hT : va_T ty a n f (oldA s) s s.heap) : ¬ a ∈ sK str := fun hm => by
  obtain ⟨cC, hc⟩ := h.cls
  obtain ⟨h1, h2⟩ := sIx_ok hm
  have hO := (h.2.2.2.2.2.2.2.2 _ h1).2.1
  rw [h2] at hO
  exact vt_no hc hT hO
theorem kwl_lt : ∀ j, j < 18 → (kwl j).length < 10 := by decide +kernel
theorem kwl_ch : ∀ j, j < 18 → ∀ c, c ∈ kwl j → c < 128 := by decide +kernel
theorem kwl_some : ∀ j, j < 18 → kw (8 + j) = some (kwl j) := by decide +kernel
/-- the byte rows -/
theorem sOK.by (h : sOK s D v1 one ten abo b L xs str sar) (ha : a = one ∨ a = ten ∨ a ∈ sK sar) : ∃ (n : Nat) (g : Nat → Nat), n < 1000 ∧ (∀ k, k < n → g k < 128) ∧ va_T .byte a n (fun k => .int (N (g k))) (oldA s) s s.heap := by
  obtain ⟨-, -, -, h1, h2, -, -, -, h3⟩ := h
  rcases ha with rfl | rfl | ha
  · exact ⟨100, fun k => 48 + k % 10, by decide, fun k _ => by show 48 + k % 10 < 128; omega, h1⟩
  · exact ⟨100, fun k => 48 + k / 10, by decide, fun k hk => by show 48 + k / 10 < 128; omega, h2⟩
  · obtain ⟨j, g1, rfl⟩ := List.mem_map.mp ha
    have g1 := List.mem_range.mp g1
    refine ⟨(kwl j).length, fun k => (kwl j).getD k 0, by have := kwl_lt j g1; omega, fun k hk => ?_, (h3 j g1).2.2.2.2⟩
    refine kwl_ch j g1 _ ?_
    show (kwl j).getD k 0 ∈ _
    rw [List.getD_eq_getElem?_getD, List.getElem?_eq_getElem hk]
    exact List.getElem_mem hk
theorem sOK.nb (h : sOK s D v1 one ten abo b L xs str sar) (hT : va_T .int a n f (oldA s) s s.heap) : ¬ (a = one ∨ a = ten ∨ a ∈ sK sar) := fun ha => by
  obtain ⟨m, g, -, -, h2⟩ := h.by ha
  cases vt_ty hT h2
theorem fits_b {x : Nat} (hx : x < 128) : fits .byte (.int (N x)) = true := by
  have : ∀ x, x < 128 → fits .byte (.int (N x)) = true := by decide +kernel
  exact this x hx
theorem fits_i {x : Int32} : fits .int (.int x) = true := rfl
section HOK
theorem sm_41 (h : sOK s D v1 one ten abo b L xs str sar) (ha : a = one ∨ a = ten ∨ a ∈ sK sar) (hn : ¬ a ∈ sK str) : hcell s D (sM s.heap v1 one ten abo b str sar) s.heap a 41 (csz s.heap a) := by
  obtain ⟨n, g, g1, g2, g3⟩ := h.by ha
  have hz := vt_sz g3 (by omega)
  have ei : ∀ j, jiv (sM s.heap v1 one ten abo b str sar) a j = civ s.heap a j := fun j => if_neg hn
  unfold hcell
  rw [if_neg (by decide), if_neg (by decide), if_neg (by decide)]
  refine ⟨?_, fun j => ?_⟩
  · obtain ⟨cell, c1, c2, c3, c4, c5, c6, c7⟩ := id g3
    refine ⟨cell, c1, c2, c3, by rw [hz]; exact c4, by rw [hz]; exact c5, fun j hj => ?_, c7⟩
    rw [hz] at hj
    show cell.slots[j]? = some (.int (jiv (sM s.heap v1 one ten abo b str sar) a j))
    rw [ei, vt_iv g3 (by omega) hj]
    exact c6 j hj
  · rw [ei]
    show fits .byte _ = true
    by_cases hj : j < n
    · rw [vt_iv g3 (by omega) hj]
      exact fits_b (g2 j hj)
    · unfold civ
      rw [if_neg (by rw [hz]; exact hj)]
      rfl
theorem sm_42 {xs' : Nat → Int32} (hT : va_T .int a n (fun k => .int (xs' k)) (oldA s) s s.heap) (hn : n < 2 ^ 31) (hns : ¬ a ∈ sK str) : hcell s D (sM s.heap v1 one ten abo b str sar) s.heap a 42 (csz s.heap a) := by
  have hz := vt_sz hT hn
  have ei : ∀ j, jiv (sM s.heap v1 one ten abo b str sar) a j = civ s.heap a j := fun j => if_neg hns
  unfold hcell
  rw [if_neg (by decide), if_neg (by decide), if_neg (by decide)]
  refine ⟨?_, fun j => fits_i⟩
  obtain ⟨cell, c1, c2, c3, c4, c5, c6, c7⟩ := id hT
  refine ⟨cell, c1, c2, c3, by rw [hz]; exact c4, by rw [hz]; exact c5, fun j hj => ?_, c7⟩
  rw [hz] at hj
  show cell.slots[j]? = some (.int (jiv (sM s.heap v1 one ten abo b str sar) a j))
  rw [ei, vt_iv hT hn hj]
  exact c6 j hj
/-- the heap holds it -/
theorem sm_hok (h : sOK s D v1 one ten abo b L xs str sar) : Hok s D (sM s.heap v1 one ten abo b str sar) s.heap := by
  have h0 := h
  obtain ⟨hK, hv, hZ, hO, hTn, hA, hX, hL, hS⟩ := h
  refine ⟨fun a k n hq => ?_, rfl, Nat.le_refl _, fun a ha => ?_, fun j q hq => ?_, fun j q hq => ?_⟩
  · have hq : (if a ∈ sK str then some (40, 0) else if a = one ∨ a = ten ∨ a ∈ sK sar then some (41, csz s.heap a) else if a = abo ∨ a = b then some (42, csz s.heap a) else none) = some (k, n) := hq
    by_cases c1 : a ∈ sK str
    · rw [if_pos c1] at hq
      cases hq
      obtain ⟨i1, i2⟩ := sIx_ok c1
      obtain ⟨-, s1, s2, s3, -⟩ := hS _ i1
      rw [i2] at s1 s2 s3
      refine ⟨?_, fun g => absurd g (by decide), fun _ => ?_⟩
      · unfold hcell
        rw [if_neg (by decide), if_neg (by decide), if_pos rfl]
        refine ⟨s1, ?_, ?_⟩
        · have e : jrv (sM s.heap v1 one ten abo b str sar) a 0 = some (sar (sIx str a)) := if_pos c1
          rw [e]
          exact s3
        · have e : jiv (sM s.heap v1 one ten abo b str sar) a 1 = 0 := if_pos c1
          rw [e]
          exact s2
      · obtain ⟨cell, g1, -⟩ := s1
        exact (Array.getElem?_eq_some_iff.mp g1).1
    · rw [if_neg c1] at hq
      by_cases c2 : a = one ∨ a = ten ∨ a ∈ sK sar
      · rw [if_pos c2] at hq
        cases hq
        obtain ⟨m, g, -, -, g3⟩ := h0.by c2
        exact ⟨sm_41 h0 c2 c1, fun g => absurd g (by decide), fun _ => vt_lt g3⟩
      · rw [if_neg c2] at hq
        by_cases c3 : a = abo ∨ a = b
        · rw [if_pos c3] at hq
          cases hq
          rcases c3 with rfl | rfl
          · exact ⟨sm_42 hA (by decide) c1, fun g => absurd g (by decide), fun _ => vt_lt hA⟩
          · exact ⟨sm_42 hX (by omega) c1, fun g => absurd g (by decide), fun _ => vt_lt hX⟩
        · rw [if_neg c3] at hq
          cases hq
  · have ha : s.heap.size ≤ a := ha
    show (if a ∈ sK str then some (40, 0) else if a = one ∨ a = ten ∨ a ∈ sK sar then some (41, csz s.heap a) else if a = abo ∨ a = b then some (42, csz s.heap a) else none) = none
    rw [if_neg, if_neg, if_neg]
    · rintro (rfl | rfl)
      · have := vt_lt hA; omega
      · have := vt_lt hX; omega
    · intro c2
      obtain ⟨m, g, -, -, g3⟩ := h0.by c2
      have := vt_lt g3
      omega
    · intro c1
      obtain ⟨i1, i2⟩ := sIx_ok c1
      obtain ⟨-, ⟨cell, g1, -⟩, -⟩ := hS _ i1
      rw [i2] at g1
      have := (Array.getElem?_eq_some_iff.mp g1).1
      omega
  · have hj : j < 8 := (List.getElem?_eq_some_iff.mp hq).1
    have e : jext (sM s.heap v1 one ten abo b str sar) j = ([Value.int 1, v1, .int 1, .int 0, .int 8, .ref one, .ref ten, .ref abo] : List Value).getD j .null := if_pos hj
    rw [e]
    exact hZ j q hq
  · have hj : j < 18 := (List.getElem?_eq_some_iff.mp hq).1
    refine ⟨str j, ?_, (hS j hj).1 q hq⟩
    have e : jext (sM s.heap v1 one ten abo b str sar) (8 + j) = .ref (str (8 + j - 8)) := if_neg (by omega)
    rw [e, Nat.add_sub_cancel_left]
theorem sm_jx (h : sOK s D v1 one ten abo b L xs str sar) : jX (sM s.heap v1 one ten abo b str sar) := by
  refine ⟨rfl, fun j hj hj2 => ?_⟩
  by_cases h8 : j < 8
  · rcases (show j = 1 ∨ j = 5 ∨ j = 6 ∨ j = 7 by omega) with rfl | rfl | rfl | rfl
    · exact h.2.1
    · exact ir_ref
    · exact ir_ref
    · exact ir_ref
  · have e : jext (sM s.heap v1 one ten abo b str sar) j = .ref (str (j - 8)) := if_neg h8
    rw [e]
    exact ir_ref
/-- a byte row of it, an int row of it -/
theorem sm_k41 (h : sOK s D v1 one ten abo b L xs str sar) (ha : a = one ∨ a = ten ∨ a ∈ sK sar) {g : Nat → Int32} (hT : va_T .byte a n (fun k => .int (g k)) (oldA s) s s.heap) (hn : n < 2 ^ 31) : jk (sM s.heap v1 one ten abo b str sar) a = 41 ∧ jl (sM s.heap v1 one ten abo b str sar) a = n ∧ ∀ j, j < n → jiv (sM s.heap v1 one ten abo b str sar) a j = g j := by
  have hn' := h.ns hT
  have e : jty (sM s.heap v1 one ten abo b str sar) a = some (41, csz s.heap a) := by
    show (if a ∈ sK str then some (40, 0) else if a = one ∨ a = ten ∨ a ∈ sK sar then some (41, csz s.heap a) else if a = abo ∨ a = b then some (42, csz s.heap a) else none) = _
    rw [if_neg hn', if_pos ha]
  refine ⟨jk_of e, by rw [jl_of e]; exact vt_sz hT hn, fun j hj => ?_⟩
  have ei : jiv (sM s.heap v1 one ten abo b str sar) a j = civ s.heap a j := if_neg hn'
  rw [ei]
  exact vt_iv hT hn hj
theorem sm_k42 (h : sOK s D v1 one ten abo b L xs str sar) (ha : a = abo ∨ a = b) {g : Nat → Int32} (hT : va_T .int a n (fun k => .int (g k)) (oldA s) s s.heap) (hn : n < 2 ^ 31) : jk (sM s.heap v1 one ten abo b str sar) a = 42 ∧ jl (sM s.heap v1 one ten abo b str sar) a = n ∧ ∀ j, j < n → jiv (sM s.heap v1 one ten abo b str sar) a j = g j := by
  have hn' := h.ns hT
  have e : jty (sM s.heap v1 one ten abo b str sar) a = some (42, csz s.heap a) := by
    show (if a ∈ sK str then some (40, 0) else if a = one ∨ a = ten ∨ a ∈ sK sar then some (41, csz s.heap a) else if a = abo ∨ a = b then some (42, csz s.heap a) else none) = _
    rw [if_neg hn', if_neg (h.nb hT), if_pos ha]
  refine ⟨jk_of e, by rw [jl_of e]; exact vt_sz hT hn, fun j hj => ?_⟩
  have ei : jiv (sM s.heap v1 one ten abo b str sar) a j = civ s.heap a j := if_neg hn'
  rw [ei]
  exact vt_iv hT hn hj
theorem kw_dom : ∀ j, j < 26 → 8 ≤ j ∨ kw j = none := by decide +kernel
theorem kw_high {l : List Nat} (h : kw j = some l) : 8 ≤ j ∧ j < 26 := by
  by_cases h26 : j < 26
  · rcases kw_dom j h26 with g | g
    · exact ⟨g, h26⟩
    · rw [g] at h
      cases h
  · obtain ⟨k, rfl⟩ : ∃ k, j = k + 26 := ⟨j - 26, by omega⟩
    cases h
theorem sm_kx (h : sOK s D v1 one ten abo b L xs str sar) : KX (sM s.heap v1 one ten abo b str sar) s.heap.size := by
  have h0 := h
  obtain ⟨hK, hv, hZ, hO, hTn, hA, hX, hL, hS⟩ := h
  obtain ⟨o1, o2, o3⟩ := sm_k41 h0 (Or.inl rfl) hO (by decide)
  obtain ⟨t1, t2, t3⟩ := sm_k41 h0 (Or.inr (Or.inl rfl)) hTn (by decide)
  refine ⟨sm_jx h0, ⟨one, vt_lt hO, rfl, o1, o2, o3⟩, ⟨ten, vt_lt hTn, rfl, t1, t2, t3⟩, fun j l hl => ?_⟩
  obtain ⟨h8, h26⟩ := kw_high hl
  obtain ⟨k, rfl⟩ : ∃ k, j = 8 + k := ⟨j - 8, by omega⟩
  have hk : k < 18 := by omega
  have el : l = kwl k := Option.some.inj (hl.symm.trans (kwl_some k hk))
  subst el
  obtain ⟨-, s1, s2, s3, s4⟩ := hS k hk
  have hm : str k ∈ sK str := sK_of hk
  obtain ⟨i1, i2⟩ := sIx_ok hm
  have es : sar (sIx str (str k)) = sar k := by
    have g := (hS _ i1).2.2.2.1
    rw [i2] at g
    exact Value.ref.inj (of_uni g s3)
  have hlen := kwl_lt k hk
  obtain ⟨a1, a2, a3⟩ := sm_k41 h0 (Or.inr (Or.inr (sK_of hk))) s4 (by omega)
  have hlt : str k < s.heap.size := by
    obtain ⟨cell, g1, -⟩ := s1
    exact (Array.getElem?_eq_some_iff.mp g1).1
  refine ⟨str k, sar k, hlt, vt_lt s4, ?_, Or.inr ?_, if_pos hm, ?_, Or.inl a1, a2, by omega, fun i c hi => ?_⟩
  · have e : jext (sM s.heap v1 one ten abo b str sar) (8 + k) = .ref (str (8 + k - 8)) := if_neg (by omega)
    rw [e, Nat.add_sub_cancel_left]
  · have e : jty (sM s.heap v1 one ten abo b str sar) (str k) = some (40, 0) := if_pos hm
    exact jk_of e
  · have e : jrv (sM s.heap v1 one ten abo b str sar) (str k) 0 = some (sar (sIx str (str k))) := if_pos hm
    rw [e, es]
  · obtain ⟨hi1, hi2⟩ := List.getElem?_eq_some_iff.mp hi
    refine ⟨?_, kwl_ch k hk c (List.mem_of_getElem? hi)⟩
    rw [a3 i hi1, List.getD_eq_getElem?_getD, hi]
    rfl
theorem sm_ja (h : sOK s D v1 one ten abo b L xs str sar) : JA (sM s.heap v1 one ten abo b str sar) s.heap.size := by
  have hA := h.2.2.2.2.2.1
  obtain ⟨a1, a2, a3⟩ := sm_k42 h (Or.inl rfl) hA (by decide)
  exact ⟨sm_jx h, abo, rfl, vt_lt hA, a1, a2, a3 0 (by decide), a3 1 (by decide), a3 2 (by decide), a3 3 (by decide), a3 4 (by decide), a3 5 (by decide)⟩
theorem sm_sc (h : sOK s D v1 one ten abo b L xs str sar) : SC (sM s.heap v1 one ten abo b str sar) (jsz (sM s.heap v1 one ten abo b str sar)) b L xs := by
  have hX := h.2.2.2.2.2.2.1
  have hL := h.2.2.2.2.2.2.2.1
  obtain ⟨a1, a2, a3⟩ := sm_k42 h (Or.inr rfl) hX (by omega)
  exact ⟨vt_lt hX, Or.inr a1, a2, hL, a3⟩
end HOK
end SMEM
