/-! THE START: what the Statement gives of it -/
def fx1 : List Cond := flatC (Jvm.Cond.and given_1 narrow_1)
def kwl (j : Nat) : List Nat := (kw (8 + j)).getD []
def gTm (j : Nat) : Term := match gSR[j]? with
  | some q => .string q.1 q.2.1
  | none => .arg 0
def gSC (j : Nat) : Cond := match gSR[j]? with
  | some q => .stringRef q.1 q.2.1 q.2.2
  | none => .count 0
def gLC (j : Nat) : Cond := match gSF[j]? with
  | some q => .laysStatic q.1 q.2.1 q.2.2
  | none => .count 0
def gIC (j : Nat) : Cond := match gSF[j]? with
  | some q => .initialized q.1
  | none => .count 0
def fxi (j : Nat) : Nat := ([263, 272, 281, 292, 303, 316, 329, 344, 359, 376, 393, 412, 431, 456, 473, 492, 514, 535] : List Nat).getD j 0
def sri (j : Nat) : Nat := ([587, 640, 641, 642, 1086, 1117, 1118, 1119, 1634, 1635, 1636, 1637, 1648, 1866, 1921, 1927, 1928, 1929] : List Nat).getD j 0
def lsi (j : Nat) : Nat := ([601, 617, 635, 637, 639, 1058, 1060, 1158] : List Nat).getD j 0
def ini (j : Nat) : Nat := ([172, 174, 175, 175, 175, 185, 185, 164] : List Nat).getD j 0
def isi (j : Nat) : Nat := ([1876, 942, 349, 195, 375, 746, 201, 402, 233, 453, 281, 310, 187, 1393] : List Nat).getD j 0
theorem fx_str : ∀ j, j < 18 → fx1[fxi j]? = some (Cond.exactly (gTm j) "java/lang/String") ∧ fx1[fxi j + 1]? = some (Cond.eq (.field (gTm j) "java/lang/String" "coder" "B") (.int 0)) ∧ fx1[fxi j + 2]? = some (Cond.arrayOf (.field (gTm j) "java/lang/String" "value" "[B") .byte) ∧ fx1[fxi j + 3]? = some (Cond.eq (.length (.field (gTm j) "java/lang/String" "value" "[B")) (.int (Int32.ofNat (kwl j).length))) ∧ ∀ k, k < (kwl j).length → fx1[fxi j + 4 + k]? = some (Cond.eq (.elem (.field (gTm j) "java/lang/String" "value" "[B") (.int (Int32.ofNat k))) (.int (N ((kwl j).getD k 0)))) := by decide +kernel
theorem fx_one : fx1[10]? = some (Cond.arrayOf (.static "java/lang/Integer" "DigitOnes" "[B") .byte) ∧ fx1[11]? = some (Cond.eq (.length (.static "java/lang/Integer" "DigitOnes" "[B")) (.int (Int32.ofNat 100))) ∧ ∀ k, k < 100 → fx1[12 + k]? = some (Cond.eq (.elem (.static "java/lang/Integer" "DigitOnes" "[B") (.int (Int32.ofNat k))) (.int (N (48 + k % 10)))) := by decide +kernel
theorem fx_ten : fx1[113]? = some (Cond.arrayOf (.static "java/lang/Integer" "DigitTens" "[B") .byte) ∧ fx1[114]? = some (Cond.eq (.length (.static "java/lang/Integer" "DigitTens" "[B")) (.int (Int32.ofNat 100))) ∧ ∀ k, k < 100 → fx1[115 + k]? = some (Cond.eq (.elem (.static "java/lang/Integer" "DigitTens" "[B") (.int (Int32.ofNat k))) (.int (N (48 + k / 10)))) := by decide +kernel
def abl : List Int32 := [NEG, N 0, N 0, N 2, N 3, N 1]
theorem fx_abo : fx1[216]? = some (Cond.arrayOf (.static "GridMerger$Rules" "ABOVE" "[I") .int) ∧ fx1[217]? = some (Cond.eq (.length (.static "GridMerger$Rules" "ABOVE" "[I")) (.int (Int32.ofNat 6))) ∧ ∀ k, k < 6 → fx1[218 + k]? = some (Cond.eq (.elem (.static "GridMerger$Rules" "ABOVE" "[I") (.int (Int32.ofNat k))) (.int (abl.getD k 0))) := by decide +kernel
theorem fx_num : fx1[4]? = some (Cond.eq (.static "java/lang/String" "COMPACT_STRINGS" "Z") (.int 1)) ∧ fx1[5]? = some (Cond.isRef (.static "jdk/internal/util/Preconditions" "SIOOBE_FORMATTER" "Ljava/util/function/BiFunction;")) ∧ fx1[6]? = some (Cond.eq (.static "java/lang/StringUTF16" "$assertionsDisabled" "Z") (.int 1)) ∧ fx1[7]? = some (Cond.eq (.static "java/lang/StringUTF16" "HI_BYTE_SHIFT" "I") (.int 0)) ∧ fx1[8]? = some (Cond.eq (.static "java/lang/StringUTF16" "LO_BYTE_SHIFT" "I") (.int 8)) := by decide +kernel
theorem sr_hint : ∀ j, j < 18 → hint (gSC j) (sri j) = true := by decide +kernel
theorem ls_hint : ∀ j, j < 8 → hint (gLC j) (lsi j) = true ∧ hint (gIC j) (ini j) = true := by decide +kernel
theorem is_hint : ∀ j, j < 14 → (match vwCl[j]? with | some q => hint (Cond.instantiable q.1 q.2.2) (isi j) | none => true) = true := by decide +kernel
section START
variable {s : State} {b : Nat}
/-- the classes' layouts -/
theorem start_K (hts : ∀ w ∈ lw_tbl, w.before #[Value.ref b] s = true) : ∃ D : va_G, va_K D vwCl [] s := by
  have h0 : ∀ c : Nat, ∃ z : ClassId × (Nat → Nat), ∀ q : vw_C, vwCl[c]? = some q → u_Kn s q.1 q.2.1 q.2.2 z.1 z.2 := fun c => by
    cases e : vwCl[c]? with
    | none => exact ⟨(0, fun _ => 0), fun q h => by cases h⟩
    | some q =>
      have hc : c < 14 := (List.getElem?_eq_some_iff.mp e).1
      have hi := is_hint c hc
      rw [e] at hi
      obtain ⟨cC, iS, hk⟩ := u_known (C := q.1) (T := q.2.1) (N := q.2.2) hts (in_ok c hc q e) (hts _ (hint_mem hi))
      exact ⟨(cC, iS), fun q' h => by cases h; exact hk⟩
  obtain ⟨z, hz⟩ := Classical.axiomOfChoice h0
  exact ⟨(fun c => (z c).1, fun c => (z c).2), fun c q hq => hz c q hq, fun k q h => by simp at h⟩
theorem old_not : ∀ a : Nat, a < s.heap.size → ¬ oldA s a := fun _ h => Nat.not_le.mpr h
/-- one constant text -/
theorem start_str (hgv : (Jvm.Cond.and given_1 narrow_1).before #[Value.ref b] s = true) (hts : ∀ w ∈ lw_tbl, w.before #[Value.ref b] s = true) : ∀ j : Nat, j < 18 → ∃ q : Nat × Nat, (∀ r : String × Nat × String, gSR[j]? = some r → vk_R r.1 r.2.1 r.2.2 q.1 s) ∧ va_O "java/lang/String" q.1 (oldA s) s s.heap ∧ va_OF "java/lang/String" "coder" "B" (.int 0) q.1 (oldA s) s s.heap ∧ va_OF "java/lang/String" "value" "[B" (.ref q.2) q.1 (oldA s) s s.heap ∧ va_T .byte q.2 (kwl j).length (fun k => .int (N ((kwl j).getD k 0))) (oldA s) s s.heap := by
  intro j hj
  have hs := flat_of_before _ hgv
  have hx : ∀ {i : Nat} {w : Cond}, fx1[i]? = some w → w.before #[Value.ref b] s = true := fun h => hs _ (List.mem_of_getElem? h)
  obtain ⟨g1, g2, g3, g4, g5⟩ := fx_str j hj
  obtain ⟨a, c, cA, kA, q1, q2, q3, q4, q5, q6, -⟩ := Cond.exactly_spec (args := #[Value.ref b]) (first := s) (o := none) (s := s) (idx := []) (t := gTm j) (cls := "java/lang/String") (hx g1)
  have hlen : (kwl j).length < 2 ^ 31 := by
    have : ∀ j, j < 18 → (kwl j).length < 10 := by decide +kernel
    exact Nat.lt_trans (this j hj) (by decide)
  obtain ⟨t, ht, hT⟩ := va_Tof (f := fun k => .int (N ((kwl j).getD k 0))) (A := oldA s) hlen (hx g3) (va_eqt (hx g4)) (fun k hk => va_eqt (hx (g5 k hk))) old_not
  refine ⟨(a, t), fun r hr => ?_, ⟨cA, q3, q5, by rw [q6]; exact q2, old_not a (Array.getElem?_eq_some_iff.mp q3).1⟩, vk_OFof q1 (va_eqt (hx g2)) old_not, vk_OFof q1 ht old_not, hT⟩
  have e1 : gTm j = .string r.1 r.2.1 := by unfold gTm; rw [hr]
  have e2 : gSC j = .stringRef r.1 r.2.1 r.2.2 := by unfold gSC; rw [hr]
  refine vk_R.of (A := #[Value.ref b]) ?_ ?_
  · rw [← e2]
    exact hts _ (hint_mem (sr_hint j hj))
  · rw [← e1]
    exact q1
/-- the statics -/
theorem start_stat (hgv : (Jvm.Cond.and given_1 narrow_1).before #[Value.ref b] s = true) (hts : ∀ w ∈ lw_tbl, w.before #[Value.ref b] s = true) : ∃ (v1 : Value) (one ten abo : Nat), jisref v1 = true ∧
    (∀ (j : Nat) (q : String × String × String), gSF[j]? = some q → va_Z q.1 q.2.1 q.2.2 (([Value.int 1, v1, .int 1, .int 0, .int 8, .ref one, .ref ten, .ref abo] : List Value).getD j .null) (oldA s) s s.heap) ∧
    va_T .byte one 100 (fun k => .int (N (48 + k % 10))) (oldA s) s s.heap ∧ va_T .byte ten 100 (fun k => .int (N (48 + k / 10))) (oldA s) s s.heap ∧ va_T .int abo 6 (fun k => .int (abl.getD k 0)) (oldA s) s s.heap := by
  have hs := flat_of_before _ hgv
  have hx : ∀ {i : Nat} {w : Cond}, fx1[i]? = some w → w.before #[Value.ref b] s = true := fun h => hs _ (List.mem_of_getElem? h)
  obtain ⟨n0, n1, n2, n3, n4⟩ := fx_num
  obtain ⟨one, o1, o2⟩ := va_Tof (f := fun k => .int (N (48 + k % 10))) (A := oldA s) (N := 100) (by decide) (hx fx_one.1) (va_eqt (hx fx_one.2.1)) (fun k hk => va_eqt (hx (fx_one.2.2 k hk))) old_not
  obtain ⟨ten, t1, t2⟩ := va_Tof (f := fun k => .int (N (48 + k / 10))) (A := oldA s) (N := 100) (by decide) (hx fx_ten.1) (va_eqt (hx fx_ten.2.1)) (fun k hk => va_eqt (hx (fx_ten.2.2 k hk))) old_not
  obtain ⟨abo, a1, a2⟩ := va_Tof (f := fun k => .int (abl.getD k 0)) (A := oldA s) (N := 6) (by decide) (hx fx_abo.1) (va_eqt (hx fx_abo.2.1)) (fun k hk => va_eqt (hx (fx_abo.2.2 k hk))) old_not
  have hl : ∀ (j : Nat) (q : String × String × String), gSF[j]? = some q → (Cond.laysStatic q.1 q.2.1 q.2.2).before #[Value.ref b] s = true ∧ (Cond.initialized q.1).before #[Value.ref b] s = true := fun j q hq => by
    have hj : j < 8 := (List.getElem?_eq_some_iff.mp hq).1
    obtain ⟨h1, h2⟩ := ls_hint j hj
    have e1 : gLC j = .laysStatic q.1 q.2.1 q.2.2 := by unfold gLC; rw [hq]
    have e2 : gIC j = .initialized q.1 := by unfold gIC; rw [hq]
    rw [e1] at h1
    rw [e2] at h2
    exact ⟨hts _ (hint_mem h1), hts _ (hint_mem h2)⟩
  have hv1 : ∃ v1 : Value, jisref v1 = true ∧ va_Z "jdk/internal/util/Preconditions" "SIOOBE_FORMATTER" "Ljava/util/function/BiFunction;" v1 (oldA s) s s.heap := by
    rcases va_Zqof (A := oldA s) (hl 1 _ rfl).1 (hl 1 _ rfl).2 (hx n1) old_not with h | ⟨t, h⟩
    · exact ⟨.null, rfl, h⟩
    · exact ⟨.ref t, rfl, h⟩
  obtain ⟨v1, r1, z1⟩ := hv1
  refine ⟨v1, one, ten, abo, r1, fun j q hq => ?_, o2, t2, a2⟩
  have hj : j < 8 := (List.getElem?_eq_some_iff.mp hq).1
  obtain ⟨l1, l2⟩ := hl j q hq
  rcases (show j = 0 ∨ j = 1 ∨ j = 2 ∨ j = 3 ∨ j = 4 ∨ j = 5 ∨ j = 6 ∨ j = 7 by omega) with rfl | rfl | rfl | rfl | rfl | rfl | rfl | rfl
  · cases hq
    exact va_Zof l1 l2 (va_eqi (hx n0)) old_not
  · cases hq
    exact z1
  · cases hq
    exact va_Zof l1 l2 (va_eqi (hx n2)) old_not
  · cases hq
    exact va_Zof l1 l2 (va_eqi (hx n3)) old_not
  · cases hq
    exact va_Zof l1 l2 (va_eqi (hx n4)) old_not
  · cases hq
    exact va_Zof l1 l2 o1 old_not
  · cases hq
    exact va_Zof l1 l2 t1 old_not
  · cases hq
    exact va_Zof l1 l2 a1 old_not
end START
