/-! THE TAPE: its tokens -/
abbrev T3 : Type := Nat × Nat × Nat
def isBl (c : Nat) : Bool := c == 32 || c == 10
def isDg (c : Nat) : Bool := Nat.ble 48 c && Nat.ble c 57
def isLt (c : Nat) : Bool := Nat.ble 97 c && Nat.ble c 122
def dval (ds : List Nat) : Nat := ds.foldl (fun a c => a * 10 + c - 48) 0
/-- which word: its token -/
def wkind (w : List Nat) : Nat := if w = [116, 111, 116, 97, 108] then 116 else if w = [109, 111, 115, 116] then 109 else if w = [108, 101, 97, 115, 116] then 108 else if w = [109, 97, 110, 121] then 110 else 1
def skind (c : Nat) : Nat := if c = 61 ∨ c = 43 ∨ c = 45 ∨ c = 42 ∨ c = 40 ∨ c = 41 ∨ c = 58 ∨ c = 36 ∨ c = 35 then c else 1
/-- a token's kind, its figure, how long it is -/
def tok1 (c : Nat) (r : List Nat) : T3 :=
  if isDg c = true then (if 6 < ((c :: r).takeWhile isDg).length then 1 else 48, dval ((c :: r).takeWhile isDg), ((c :: r).takeWhile isDg).length)
  else if isLt c = true then (if ((c :: r).takeWhile isLt).length = 1 ∧ c < 100 then (97, c - 97, 1) else (wkind ((c :: r).takeWhile isLt), 0, ((c :: r).takeWhile isLt).length))
  else (skind c, 0, 1)
/-- how many blanks are ahead -/
def nbl (r : List Nat) : Nat := (r.takeWhile isBl).length
/-- the tokens from place p on: kinds, starts, figures -/
def lexx : Nat → Nat → List Nat → List T3
  | 0, p, _ => [(0, p, 0)]
  | n + 1, p, r => match r.drop (nbl r) with
    | [] => [(0, p + nbl r, 0)]
    | c :: t => ((tok1 c t).1, p + nbl r, (tok1 c t).2.1) :: lexx n (p + nbl r + (tok1 c t).2.2) ((c :: t).drop (tok1 c t).2.2)
/-- the tape's shape -/
def TQ (μ : jM) (q : Nat) : Prop := (jk μ q = 10 ∧ jk μ (q + 1) = 20 ∧ jl μ (q + 1) = 40 ∧ jk μ (q + 2) = 20 ∧ jl μ (q + 2) = 41 ∧ jk μ (q + 3) = 20 ∧ jl μ (q + 3) = 41 ∧ jk μ (q + 4) = 20 ∧ jl μ (q + 4) = 41) ∧ jrv μ q 0 = some (q + 1) ∧ jrv μ q 3 = some (q + 2) ∧ jrv μ q 4 = some (q + 3) ∧ jrv μ q 5 = some (q + 4)
/-- what is on the tape -/
def TB (μ : jM) (q : Nat) (bs : List Nat) : Prop := jiv μ q 1 = N bs.length ∧ bs.length ≤ 40 ∧ ∀ i c, bs[i]? = some c → jiv μ (q + 1) i = N c ∧ c < 256
/-- the tokens found -/
def TL (μ : jM) (q : Nat) (L : List T3) : Prop := ∀ i x, L[i]? = some x → jiv μ (q + 2) i = N x.1 ∧ jiv μ (q + 3) i = N x.2.1 ∧ jiv μ (q + 4) i = N x.2.2
def TF (q : Nat) (μ μ' : jM) : Prop := Fx (fun a => q ≤ a ∧ a < q + 5) (fun _ _ => False) μ μ'
section LEX
variable {μ μ' : jM} {q d i p k n B : Nat} {bs : List Nat} {c : Nat} {L : List T3}
theorem TF.refl : TF q μ μ := Fx.refl
theorem TF.trans {μ'' : jM} (a : TF q μ μ') (b : TF q μ' μ'') : TF q μ μ'' := Fx.trans a b
theorem TF.setI {a j : Nat} {v : Int32} (F : TF q μ μ') (ha : q ≤ a ∧ a < q + 5) : TF q μ (jsetI μ' a j v) := by refine Fx.setI F ?_; show q ≤ a ∧ a < q + 5; exact ha
theorem TF.rv (F : TF q μ μ') (a j : Nat) : jrv μ' a j = jrv μ a j := Fx.rv F id
theorem TQ.fr (h : TQ μ q) (F : TF q μ μ') : TQ μ' q := by
  unfold TQ
  simp only [F.kk, F.ll, F.rv]
  exact h
theorem TB.fr (h : TB μ q bs) (h1 : jiv μ' q 1 = jiv μ q 1) (h2 : jiv μ' (q + 1) = jiv μ (q + 1)) : TB μ' q bs := by
  unfold TB
  rw [h1, h2]; exact h
theorem x_isBlank {c : Nat} (hc : c < 256) : jC d 134 [.int (N c)] μ = some (some (.int (bN (isBl c))), μ) := by
  rw [jC_run (by decide)]
  show jR d 134 0 [.int (N c)] [] μ = _
  unfold isBl bN
  simp only [b134_0, b134_12, b134_17, aI_eq, aB_eq, aR_eq, sI_eq, sB_eq, sR_eq, Option.bind_some, Option.bind_none, if_true, if_false, true_or, or_true, false_or, or_false, true_and, and_true, false_and, and_false, decide_eq_true_eq, decide_true, decide_false, eq_self, not_true_eq_false, not_false_eq_true, jfit0, N_lit, N_add, N_mul, NEG_eq, pl_none, pl_some, rf_some, rf_none, jun_ref, jun_null, ir_ref, ir_null, jr_rf, jun_rf, Option.toList_some, Option.toList_none, List.nil_append, List.cons_append, N_inj (show c < 2147483648 by omega) (show 32 < 2147483648 by decide), N_inj (show c < 2147483648 by omega) (show 10 < 2147483648 by decide), show jrf 4 (N 0) = true from rfl, show jrf 4 (N 1) = true from rfl]
  by_cases h1 : c = 32
  · subst h1; rfl
  · by_cases h2 : c = 10
    · subst h2; rfl
    · simp [h1, h2]
theorem x_isDigit {c : Nat} (hc : c < 256) : jC d 135 [.int (N c)] μ = some (some (.int (bN (isDg c))), μ) := by
  rw [jC_run (by decide)]
  show jR d 135 0 [.int (N c)] [] μ = _
  unfold isDg bN
  simp only [b135_0, b135_16, b135_17, aI_eq, aB_eq, aR_eq, sI_eq, sB_eq, sR_eq, Option.bind_some, Option.bind_none, if_true, if_false, true_or, or_true, false_or, or_false, true_and, and_true, false_and, and_false, decide_eq_true_eq, decide_true, decide_false, eq_self, not_true_eq_false, not_false_eq_true, jfit0, N_lit, N_add, N_mul, NEG_eq, pl_none, pl_some, rf_some, rf_none, jun_ref, jun_null, ir_ref, ir_null, jr_rf, jun_rf, Option.toList_some, Option.toList_none, List.nil_append, List.cons_append, N_lt (show c < 2147483648 by omega) (show 48 < 2147483648 by decide), N_lt (show 57 < 2147483648 by decide) (show c < 2147483648 by omega), show jrf 4 (N 0) = true from rfl, show jrf 4 (N 1) = true from rfl]
  by_cases h1 : c < 48
  · have e1 : Nat.ble 48 c = false := by cases e : Nat.ble 48 c with
      | false => rfl
      | true => have := Nat.le_of_ble_eq_true e; omega
    simp [h1, e1]
  · have e1 : Nat.ble 48 c = true := Nat.ble_eq_true_of_le (by omega)
    by_cases h2 : 57 < c
    · have e2 : Nat.ble c 57 = false := by cases e : Nat.ble c 57 with
        | false => rfl
        | true => have := Nat.le_of_ble_eq_true e; omega
      simp [h1, h2, e1, e2]
    · have e2 : Nat.ble c 57 = true := Nat.ble_eq_true_of_le (by omega)
      simp [h1, h2, e1, e2]
theorem x_isLetter {c : Nat} (hc : c < 256) : jC d 137 [.int (N c)] μ = some (some (.int (bN (isLt c))), μ) := by
  rw [jC_run (by decide)]
  show jR d 137 0 [.int (N c)] [] μ = _
  unfold isLt bN
  simp only [b137_0, b137_16, b137_17, aI_eq, aB_eq, aR_eq, sI_eq, sB_eq, sR_eq, Option.bind_some, Option.bind_none, if_true, if_false, true_or, or_true, false_or, or_false, true_and, and_true, false_and, and_false, decide_eq_true_eq, decide_true, decide_false, eq_self, not_true_eq_false, not_false_eq_true, jfit0, N_lit, N_add, N_mul, NEG_eq, pl_none, pl_some, rf_some, rf_none, jun_ref, jun_null, ir_ref, ir_null, jr_rf, jun_rf, Option.toList_some, Option.toList_none, List.nil_append, List.cons_append, N_lt (show c < 2147483648 by omega) (show 97 < 2147483648 by decide), N_lt (show 122 < 2147483648 by decide) (show c < 2147483648 by omega), show jrf 4 (N 0) = true from rfl, show jrf 4 (N 1) = true from rfl]
  by_cases h1 : c < 97
  · have e1 : Nat.ble 97 c = false := by cases e : Nat.ble 97 c with
      | false => rfl
      | true => have := Nat.le_of_ble_eq_true e; omega
    simp [h1, e1]
  · have e1 : Nat.ble 97 c = true := Nat.ble_eq_true_of_le (by omega)
    by_cases h2 : 122 < c
    · have e2 : Nat.ble c 122 = false := by cases e : Nat.ble c 122 with
        | false => rfl
        | true => have := Nat.le_of_ble_eq_true e; omega
      simp [h1, h2, e1, e2]
    · have e2 : Nat.ble c 122 = true := Nat.ble_eq_true_of_le (by omega)
      simp [h1, h2, e1, e2]
theorem bN_0 {b : Bool} : (bN b = N 0) = (b = false) := by
  cases b with
  | false => exact propext ⟨fun _ => rfl, fun _ => rfl⟩
  | true => exact propext ⟨fun h => absurd h (by decide), fun h => by cases h⟩
theorem x_signOf {c : Nat} (hc : c < 256) : jC d 140 [.int (N c)] μ = some (some (.int (N (skind c))), μ) := by
  rw [jC_run (by decide)]
  show jR d 140 0 [.int (N c)] [] μ = _
  have e : ∀ k, k < 256 → (N c = N k) = (c = k) := fun k hk => N_inj (by omega) (by omega)
  simp only [b140_0, aI_eq, aB_eq, aR_eq, sI_eq, sB_eq, sR_eq, Option.bind_some, Option.bind_none, if_true, if_false, true_or, or_true, false_or, or_false, true_and, and_true, false_and, and_false, decide_eq_true_eq, decide_true, decide_false, eq_self, not_true_eq_false, not_false_eq_true, jfit0, N_lit, N_add, N_mul, NEG_eq, pl_none, pl_some, rf_some, rf_none, jun_ref, jun_null, ir_ref, ir_null, jr_rf, jun_rf, Option.toList_some, Option.toList_none, List.nil_append, List.cons_append, e 35 (by decide), e 36 (by decide), e 37 (by decide), e 38 (by decide), e 39 (by decide), e 40 (by decide), e 41 (by decide), e 42 (by decide), e 43 (by decide), e 44 (by decide), e 45 (by decide), e 46 (by decide), e 47 (by decide), e 48 (by decide), e 49 (by decide), e 50 (by decide), e 51 (by decide), e 52 (by decide), e 53 (by decide), e 54 (by decide), e 55 (by decide), e 56 (by decide), e 57 (by decide), e 58 (by decide), e 59 (by decide), e 60 (by decide), e 61 (by decide)]
  unfold skind
  by_cases h : c = 61 ∨ c = 43 ∨ c = 45 ∨ c = 42 ∨ c = 40 ∨ c = 41 ∨ c = 58 ∨ c = 36 ∨ c = 35
  · rw [if_pos h]
    rcases h with rfl | rfl | rfl | rfl | rfl | rfl | rfl | rfl | rfl
    all_goals rfl
  · rw [if_neg h]
    have h1 : c ≠ 61 ∧ c ≠ 43 ∧ c ≠ 45 ∧ c ≠ 42 ∧ c ≠ 40 ∧ c ≠ 41 ∧ c ≠ 58 ∧ c ≠ 36 ∧ c ≠ 35 := by omega
    obtain ⟨n1, n2, n3, n4, n5, n6, n7, n8, n9⟩ := h1
    simp only [n1, n2, n3, n4, n5, n6, n7, n8, n9, if_false, ite_self]
theorem byte_at (h : TQ μ q) (hb : TB μ q bs) (hc : bs[p]? = some c) : jaI μ (.ref (q + 1)) (N p) = some (N c) ∧ c < 256 ∧ p < bs.length ∧ p < 40 := by
  have hp : p < bs.length := (List.getElem?_eq_some_iff.mp hc).1
  obtain ⟨h1, h2, h3⟩ := hb
  obtain ⟨e1, e2⟩ := h3 p c hc
  refine ⟨?_, e2, hp, by omega⟩
  rw [aI_eq, if_pos ⟨Or.inl h.1.2.1, by rw [jinb_N (by omega), h.1.2.2.1]; exact decide_eq_true (by omega)⟩, N_nat (by omega), e1]
/-- blanks passed over -/
theorem scan_blank {i1 : Value} {v : Int32} (hi1 : i1 = .int v) (h : TQ μ q) (hb : TB μ q bs) : ∀ (r A : List Nat) (μ : jM), bs = A ++ r → TQ μ q → TB μ q bs → jiv μ q 2 = N A.length → ∃ μ', jR (d + 1) 133 0 [.ref q, i1] [] μ = jR (d + 1) 133 39 [.ref q, i1] [] μ' ∧ TF q μ μ' ∧ jiv μ' q 2 = N (A.length + nbl r) ∧ jiv μ' q 1 = jiv μ q 1 ∧ jiv μ' q 6 = jiv μ q 6 ∧ (∀ a, a ≠ q → jiv μ' a = jiv μ a) := by
  subst hi1
  intro r
  induction r with
  | nil =>
    intro A μ hA hq hb hn
    refine ⟨μ, ?_, TF.refl, by simpa [nbl] using hn, rfl, rfl, fun _ _ => rfl⟩
    have hl : bs.length = A.length := by rw [hA, List.append_nil]
    simp only [b133_0, gI10, gR10, pI10, pR10, rv10, aI_eq, aB_eq, aR_eq, sI_eq, sB_eq, sR_eq, Option.bind_some, Option.bind_none, if_true, if_false, true_or, or_true, false_or, or_false, true_and, and_true, false_and, and_false, decide_eq_true_eq, decide_true, decide_false, eq_self, not_true_eq_false, not_false_eq_true, jfit0, N_lit, N_add, N_mul, NEG_eq, pl_none, pl_some, rf_some, rf_none, jun_ref, jun_null, ir_ref, ir_null, jr_rf, jun_rf, Option.toList_some, Option.toList_none, List.nil_append, List.cons_append, hq.1.1, hn, hb.1, hl, N_lt (show A.length < 2147483648 by have := hb.2.1; omega) (show A.length < 2147483648 by have := hb.2.1; omega), Nat.lt_irrefl]
  | cons c r ih =>
    intro A μ hA hq hb hn
    have hc : bs[A.length]? = some c := by rw [hA, List.getElem?_append_right (Nat.le_refl _), Nat.sub_self]; rfl
    obtain ⟨c1, c2, c3, c4⟩ := byte_at hq hb hc
    have h40 := hb.2.1
    have lt : (N A.length < N bs.length) = True := by rw [N_lt (by omega) (by omega)]; exact eq_true c3
    cases e : isBl c with
    | false =>
      refine ⟨μ, ?_, TF.refl, ?_, rfl, rfl, fun _ _ => rfl⟩
      · simp only [b133_0, b133_23, gI10, gR10, pI10, pR10, rv10, Option.bind_some, Option.bind_none, if_true, if_false, true_or, or_true, false_or, or_false, true_and, and_true, false_and, and_false, decide_eq_true_eq, decide_true, decide_false, eq_self, not_true_eq_false, not_false_eq_true, jfit0, N_lit, N_add, N_mul, NEG_eq, pl_none, pl_some, rf_some, rf_none, jun_ref, jun_null, ir_ref, ir_null, jr_rf, jun_rf, Option.toList_some, Option.toList_none, List.nil_append, List.cons_append, hq.1.1, hq.2.1, hn, hb.1, lt, c1, x_isBlank c2, bN_0, e]
      · unfold nbl
        rw [List.takeWhile_cons, e]
        exact hn
    | true =>
      have F : TF q μ (jsetI μ q 2 (N (A.length + 1))) := TF.setI TF.refl (by omega)
      have e1 : jiv (jsetI μ q 2 (N (A.length + 1))) (q + 1) = jiv μ (q + 1) := by simp only [ty_setI, ty_setR, ty_rowI, ty_rowR, jk_setI, jk_setR, jk_rowI, jk_rowR, jl_setI, jl_setR, jl_rowI, jl_rowR, sz_setI, sz_setR, sz_rowI, sz_rowR, ext_setI, ext_setR, iv_setI, iv_setR, iv_rowI, iv_rowR, rv_setI, rv_setR, rv_rowI, rv_rowR, iv_setIn, iv_rowIn, rv_setRn, rv_rowRn, iv_rowIe, rv_rowRe, show ¬ q + 1 = q by omega, not_false_eq_true]
      have e2 : jiv (jsetI μ q 2 (N (A.length + 1))) q 1 = jiv μ q 1 := by simp only [ty_setI, ty_setR, ty_rowI, ty_rowR, jk_setI, jk_setR, jk_rowI, jk_rowR, jl_setI, jl_setR, jl_rowI, jl_rowR, sz_setI, sz_setR, sz_rowI, sz_rowR, ext_setI, ext_setR, iv_setI, iv_setR, iv_rowI, iv_rowR, rv_setI, rv_setR, rv_rowI, rv_rowR, iv_setIn, iv_rowIn, rv_setRn, rv_rowRn, iv_rowIe, rv_rowRe, show ¬ (1 : Nat) = 2 by decide, and_false, if_false]
      have e3 : jiv (jsetI μ q 2 (N (A.length + 1))) q 6 = jiv μ q 6 := by simp only [ty_setI, ty_setR, ty_rowI, ty_rowR, jk_setI, jk_setR, jk_rowI, jk_rowR, jl_setI, jl_setR, jl_rowI, jl_rowR, sz_setI, sz_setR, sz_rowI, sz_rowR, ext_setI, ext_setR, iv_setI, iv_setR, iv_rowI, iv_rowR, rv_setI, rv_setR, rv_rowI, rv_rowR, iv_setIn, iv_rowIn, rv_setRn, rv_rowRn, iv_rowIe, rv_rowRe, show ¬ (6 : Nat) = 2 by decide, and_false, if_false]
      obtain ⟨μ', r1, r2, r3, r4, r5, r6⟩ := ih (A ++ [c]) _ (by rw [hA]; simp) (hq.fr F) (hb.fr e2 e1) (by simp only [ty_setI, ty_setR, ty_rowI, ty_rowR, jk_setI, jk_setR, jk_rowI, jk_rowR, jl_setI, jl_setR, jl_rowI, jl_rowR, sz_setI, sz_setR, sz_rowI, sz_rowR, ext_setI, ext_setR, iv_setI, iv_setR, iv_rowI, iv_rowR, rv_setI, rv_setR, rv_rowI, rv_rowR, iv_setIn, iv_rowIn, rv_setRn, rv_rowRn, iv_rowIe, rv_rowRe, and_self, if_true, List.length_append, List.length_cons, List.length_nil])
      refine ⟨μ', ?_, F.trans r2, ?_, r4.trans e2, r5.trans e3, fun a ha => (r6 a ha).trans (by simp only [ty_setI, ty_setR, ty_rowI, ty_rowR, jk_setI, jk_setR, jk_rowI, jk_rowR, jl_setI, jl_setR, jl_rowI, jl_rowR, sz_setI, sz_setR, sz_rowI, sz_rowR, ext_setI, ext_setR, iv_setI, iv_setR, iv_rowI, iv_rowR, rv_setI, rv_setR, rv_rowI, rv_rowR, iv_setIn, iv_rowIn, rv_setRn, rv_rowRn, iv_rowIe, rv_rowRe, ha, not_false_eq_true])⟩
      · rw [← r1]
        simp only [b133_0, b133_23, gI10, gR10, pI10, pR10, rv10, Option.bind_some, Option.bind_none, if_true, if_false, true_or, or_true, false_or, or_false, true_and, and_true, false_and, and_false, decide_eq_true_eq, decide_true, decide_false, eq_self, not_true_eq_false, not_false_eq_true, jfit0, N_lit, N_add, N_mul, NEG_eq, pl_none, pl_some, rf_some, rf_none, jun_ref, jun_null, ir_ref, ir_null, jr_rf, jun_rf, Option.toList_some, Option.toList_none, List.nil_append, List.cons_append, hq.1.1, hq.2.1, hn, hb.1, lt, c1, x_isBlank c2, bN_0, e, reduceCtorEq]
      · rw [r3]
        unfold nbl
        rw [List.takeWhile_cons, e]
        simp only [if_true, List.length_append, List.length_cons, List.length_nil]
        congr 1; omega
end LEX
