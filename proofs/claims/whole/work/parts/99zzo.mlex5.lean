/-! THE REFERENCE's READER: the next token -/
/-- at this token: read ahead, or unfit -/
def TS (μ : jM) (M : Nat) (bs : List Nat) (ts : List T3) : Prop := jiv μ M 18 = N (hs ts) ∧ ((hk ts = 1 ∧ jiv μ M 22 = N 1) ∨ (jiv μ M 22 = N 0 ∧ tkv (hk ts) (hf ts) (jiv μ M 19) (jiv μ M 20) ∧ (hk ts ≠ 0 → ∃ n A r, bs = A ++ r ∧ jiv μ M 17 = N A.length ∧ r.length ≤ n ∧ ts.tail = lexx n A.length r)))
section LEX
variable {μ μ' μ'' : jM} {M B d i j k a t c n w lo hi : Nat} {bs r A R s ds ws l : List Nat} {v x : Int32}
theorem isBl_iff : (isBl c = true) = (c = 32 ∨ c = 10) := by
  unfold isBl
  simp
/-- blanks passed over -/
theorem bl_loop {u1 : Value} : ∀ (r A : List Nat) (μ : jM), LB μ M B (A ++ r) → jiv μ M 17 = N A.length → ∃ μ', jR (d + 1) 173 8 [.ref M, u1] [] μ = jR (d + 1) 173 63 [.ref M, u1] [.int (hdB (r.drop (nbl r)))] μ' ∧ NX M μ μ' ∧ jiv μ' M 17 = N (A.length + nbl r) ∧ jiv μ' M 18 = N (A.length + nbl r) ∧ jiv μ' M 22 = jiv μ M 22 := by
  intro r
  induction r with
  | nil =>
    intro A μ h h7
    have k13 := h.k13
    have b := r_byteAt (d := d) h
    have F1 : NX M μ (jsetI μ M 18 (N A.length)) := NX.set (by omega)
    have h1 := h.nx F1
    have b1 := r_byteAt (d := d) h1
    have k1 : jk (jsetI μ M 18 (N A.length)) M = 13 := k13
    have g7 : jiv (jsetI μ M 18 (N A.length)) M 17 = N A.length := (ivj (by decide)).trans h7
    refine ⟨jsetI μ M 18 (N A.length), ?_, F1, g7, if_pos ⟨rfl, rfl⟩, ivj (by decide)⟩
    rw [b173_8]
    simp only [gI13, gR13, pI13, pR13, rv13, k13, h7, if_true, Option.bind_some, b]
    show jR (d + 1) 173 16 [.ref M, u1] [.int NEG] μ = _
    rw [b173_16, if_neg (show ¬ NEG = 32 by decide)]
    simp only [gI13, gR13, pI13, pR13, rv13, k13, h7, if_true, Option.bind_some, b]
    show jR (d + 1) 173 29 [.ref M, u1] [.int NEG] μ = _
    rw [b173_29, if_neg (show ¬ NEG = 10 by decide)]
    simp only [gI13, gR13, pI13, pR13, rv13, k13, k1, jfit0, and_true, h7, g7, if_true, Option.bind_some, b1]
    rfl
  | cons c r ih =>
    intro A μ h h7
    have k13 := h.k13
    have hc := h.ch
    have b := r_byteAt (d := d) h
    have c32 : (N c = 32) = (c = 32) := N_inj (a := c) (b := 32) (by omega) (by decide)
    have c10 : (N c = 10) = (c = 10) := N_inj (a := c) (b := 10) (by omega) (by decide)
    have e1 : jR (d + 1) 173 8 [.ref M, u1] [] μ = jR (d + 1) 173 16 [.ref M, u1] [.int (N c)] μ := by
      rw [b173_8]
      simp only [gI13, gR13, pI13, pR13, rv13, k13, h7, if_true, Option.bind_some, b]
      rfl
    by_cases e : c = 32 ∨ c = 10
    · have tw : nbl (c :: r) = nbl r + 1 := by
        unfold nbl
        rw [List.takeWhile_cons, if_pos (by rw [isBl_iff]; exact e)]
        rfl
      have en : N A.length + 1 = N (A.length + 1) := by rw [show (1 : Int32) = N 1 from rfl, N_add]
      have F1 : NX M μ (jsetI μ M 17 (N (A.length + 1))) := NX.set (by omega)
      have e2 : jR (d + 1) 173 16 [.ref M, u1] [.int (N c)] μ = jR (d + 1) 173 8 [.ref M, u1] [] (jsetI μ M 17 (N (A.length + 1))) := by
        have e34 : jR (d + 1) 173 34 [.ref M, u1] [] μ = jR (d + 1) 173 8 [.ref M, u1] [] (jsetI μ M 17 (N (A.length + 1))) := by
          rw [b173_34]
          simp only [gI13, gR13, pI13, pR13, rv13, k13, jfit0, h7, if_true, and_true, Option.bind_some, en]
        rw [b173_16]
        simp only [c32]
        by_cases e3 : c = 32
        · rw [if_pos e3]; exact e34
        · rw [if_neg e3]
          simp only [gI13, gR13, pI13, pR13, rv13, k13, h7, if_true, Option.bind_some, b]
          show jR (d + 1) 173 29 [.ref M, u1] [.int (N c)] μ = _
          rw [b173_29]
          simp only [c10]
          rw [if_pos (show c = 10 by omega)]
          exact e34
      obtain ⟨μ', c1, F2, g7, g8, g2⟩ := ih (A ++ [c]) (jsetI μ M 17 (N (A.length + 1))) (by rw [List.append_assoc]; exact h.nx F1) (by
        rw [List.length_append]
        exact if_pos ⟨rfl, rfl⟩)
      have ee : (A ++ [c]).length + nbl r = A.length + nbl (c :: r) := by
        rw [tw, List.length_append]
        show A.length + 1 + nbl r = _
        omega
      rw [ee] at g7 g8
      refine ⟨μ', ?_, F1.trans F2, g7, g8, g2.trans (ivj (by decide))⟩
      rw [e1, e2, c1, tw]
      rfl
    · have tw : nbl (c :: r) = 0 := by
        unfold nbl
        rw [List.takeWhile_cons, if_neg (by rw [isBl_iff]; exact e)]
        rfl
      have F1 : NX M μ (jsetI μ M 18 (N A.length)) := NX.set (by omega)
      have h1 := h.nx F1
      have b1 := r_byteAt (d := d) h1
      have k1 : jk (jsetI μ M 18 (N A.length)) M = 13 := k13
      have g7 : jiv (jsetI μ M 18 (N A.length)) M 17 = N A.length := (ivj (by decide)).trans h7
      rw [tw]
      refine ⟨jsetI μ M 18 (N A.length), ?_, F1, g7, if_pos ⟨rfl, rfl⟩, ivj (by decide)⟩
      rw [e1, b173_16]
      simp only [c32]
      rw [if_neg (show ¬ c = 32 from fun q => e (Or.inl q))]
      simp only [gI13, gR13, pI13, pR13, rv13, k13, h7, if_true, Option.bind_some, b]
      show jR (d + 1) 173 29 [.ref M, u1] [.int (N c)] μ = _
      rw [b173_29]
      simp only [c10]
      rw [if_neg (show ¬ c = 10 from fun q => e (Or.inr q))]
      simp only [gI13, gR13, pI13, pR13, rv13, k13, k1, jfit0, and_true, h7, g7, if_true, Option.bind_some, b1]
      rfl
theorem skind_iff : skind c = if c ∈ signs then c else 1 := by
  unfold skind
  have : (c ∈ signs) = (c = 61 ∨ c = 43 ∨ c = 45 ∨ c = 42 ∨ c = 40 ∨ c = 41 ∨ c = 58 ∨ c = 36 ∨ c = 35) := by
    unfold signs
    simp only [List.mem_cons, List.not_mem_nil, or_false]
  simp only [this]
/-- a sign, or what is none -/
theorem r_signTok (h : LB μ M B (A ++ (c :: l))) (n1 : ¬ isDg c = true) (n2 : ¬ isLt c = true) (h7 : jiv μ M 17 = N A.length) (h8 : jiv μ M 18 = N A.length) (h2 : jiv μ M 22 = N 0) : ∃ μ', jR (d + 5) 173 101 [.ref M, .int (N c)] [.int 0] μ = some (none, μ') ∧ NX M μ μ' ∧ jiv μ' M 18 = N A.length ∧ TokS μ' M (tok1 c l).1 (tok1 c l).2.1 ∧ jiv μ' M 17 = N (A.length + (tok1 c l).2.2) := by
  have k13 := h.k13
  have hc := h.ch
  have t1 : tok1 c l = (skind c, 0, 1) := by
    unfold tok1
    rw [if_neg n1, if_neg n2]
  rw [t1, skind_iff]
  have en : N A.length + 1 = N (A.length + 1) := by rw [show (1 : Int32) = N 1 from rfl, N_add]
  have F1 : NX M μ (jsetI μ M 19 (N 2)) := NX.set (by omega)
  have h1 := h.nx F1
  have a7 : jiv (jsetI μ M 19 (N 2)) M 17 = N A.length := (ivj (by decide)).trans h7
  have a8 : jiv (jsetI μ M 19 (N 2)) M 18 = N A.length := (ivj (by decide)).trans h8
  have a9 : jiv (jsetI μ M 19 (N 2)) M 19 = N 2 := if_pos ⟨rfl, rfl⟩
  have a2 : jiv (jsetI μ M 19 (N 2)) M 22 = N 0 := (ivj (by decide)).trans h2
  have p1 : jpI μ 13 19 0 (.ref M) 2 = some (jsetI μ M 19 (N 2)) := by
    simp only [gI13, gR13, pI13, pR13, rv13, k13, jfit0, if_true, and_true]
    rfl
  generalize jsetI μ M 19 (N 2) = μ1 at *
  have F2 : NX M μ1 (jsetI μ1 M 20 (N c)) := NX.set (by omega)
  have h2' := h1.nx F2
  have b7 : jiv (jsetI μ1 M 20 (N c)) M 17 = N A.length := (ivj (by decide)).trans a7
  have b8 : jiv (jsetI μ1 M 20 (N c)) M 18 = N A.length := (ivj (by decide)).trans a8
  have b9 : jiv (jsetI μ1 M 20 (N c)) M 19 = N 2 := (ivj (by decide)).trans a9
  have b2 : jiv (jsetI μ1 M 20 (N c)) M 22 = N 0 := (ivj (by decide)).trans a2
  have b0 : jiv (jsetI μ1 M 20 (N c)) M 20 = N c := if_pos ⟨rfl, rfl⟩
  have p2 : jpI μ1 13 20 0 (.ref M) (N c) = some (jsetI μ1 M 20 (N c)) := by
    simp only [gI13, gR13, pI13, pR13, rv13, h1.k13, jfit0, if_true, and_true]
  generalize jsetI μ1 M 20 (N c) = μ2 at *
  have F3 : NX M μ2 (jsetI μ2 M 17 (N (A.length + 1))) := NX.set (by omega)
  have h3 := h2'.nx F3
  have c7 : jiv (jsetI μ2 M 17 (N (A.length + 1))) M 17 = N (A.length + 1) := if_pos ⟨rfl, rfl⟩
  have c8 : jiv (jsetI μ2 M 17 (N (A.length + 1))) M 18 = N A.length := (ivj (by decide)).trans b8
  have c9 : jiv (jsetI μ2 M 17 (N (A.length + 1))) M 19 = N 2 := (ivj (by decide)).trans b9
  have c2 : jiv (jsetI μ2 M 17 (N (A.length + 1))) M 22 = N 0 := (ivj (by decide)).trans b2
  have c0 : jiv (jsetI μ2 M 17 (N (A.length + 1))) M 20 = N c := (ivj (by decide)).trans b0
  have p3 : (jgI μ2 13 17 (.ref M)).bind (fun x3 => jpI μ2 13 17 0 (.ref M) (x3 + 1)) = some (jsetI μ2 M 17 (N (A.length + 1))) := by
    simp only [gI13, gR13, pI13, pR13, rv13, h2'.k13, jfit0, if_true, and_true, b7, Option.bind_some, en]
  have F := (F1.trans F2).trans F3
  generalize jsetI μ2 M 17 (N (A.length + 1)) = μ3 at *
  have k3 := h3.k13
  have s152 : ∀ z, (z = N 0 ∨ z = N 1) → jR (d + 5) 173 152 [.ref M, .int (N c)] [.int z, .ref M] μ3 = some (none, jsetI μ3 M 22 z) := fun z hz => by
    rw [b173_152 (hs0 := ir_ref)]
    have : jfit 2 z = true := by rcases hz with rfl | rfl <;> rfl
    simp only [gI13, gR13, pI13, pR13, rv13, k3, this, if_true, and_true, Option.bind_some]
    rw [b173_155]
  obtain ⟨b, tb, e5, st5⟩ := kx_st (j := 20) h3.2.2.1 rfl
  have run : jR (d + 5) 173 101 [.ref M, .int (N c)] [.int 0] μ = some (none, jsetI μ3 M 22 (if c ∈ signs then N 0 else N 1)) := by
    rw [b173_101 (hx := h.2.2.1.1), if_pos rfl, p1]
    simp only [Option.bind_some]
    rw [p2]
    simp only [Option.bind_some]
    have q3 : ∀ (f : jM → Option (Option Value × jM)), ((jgI μ2 13 17 (.ref M)).bind fun x3 => (jpI μ2 13 17 0 (.ref M) (x3 + 1)).bind f) = f μ3 := fun f => by
      rw [← Option.bind_assoc, p3]
      rfl
    rw [q3, e5]
    have cc : (127 < N c) = (127 < c) := by
      show (N 127 < N c) = _
      rw [N_lt (by decide) (by omega)]
    simp only [cc]
    by_cases e : 127 < c
    · rw [if_pos e, if_neg (show ¬ c ∈ signs by
        unfold signs
        simp only [List.mem_cons, List.not_mem_nil, or_false]
        omega), b173_147 (hs0 := ir_ref)]
      exact s152 _ (Or.inr rfl)
    · rw [if_neg e, if_pos (rv0' st5.1)]
      obtain ⟨v, i1, i2⟩ := st_index (d := d) h3.2.2.1.1 st5 (show c < 128 by omega)
      rw [i1]
      show jR (d + 5) 173 144 [.ref M, .int (N c)] [.int v, .ref M] μ3 = _
      rw [b173_144 (hs0 := ir_ref)]
      have i2 : (v < 0) = ¬ c ∈ signs := i2
      simp only [i2]
      by_cases e6 : c ∈ signs
      · rw [if_neg (fun q => q e6), if_pos e6]
        exact s152 _ (Or.inl rfl)
      · rw [if_pos e6, if_neg e6, b173_147 (hs0 := ir_ref)]
        exact s152 _ (Or.inr rfl)
  refine ⟨_, run, F.trans (NX.set (by omega)), (ivj (by decide)).trans c8, ?_, (ivj (by decide)).trans c7⟩
  by_cases e6 : c ∈ signs
  · rw [if_pos e6, if_pos e6]
    exact Or.inr ⟨if_pos ⟨rfl, rfl⟩, Or.inr (Or.inr (Or.inl ⟨e6, (ivj (by decide)).trans c9, (ivj (by decide)).trans c0⟩))⟩
  · rw [if_neg e6, if_neg e6]
    exact Or.inl ⟨rfl, if_pos ⟨rfl, rfl⟩⟩
end LEX
