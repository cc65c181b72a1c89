/-! THE TAPE: one token scanned -/
/-- what stays while token i is scanned -/
def SCF (q i : Nat) (μ μ' : jM) : Prop := TF q μ μ' ∧ jiv μ' q 1 = jiv μ q 1 ∧ jiv μ' q 6 = jiv μ q 6 ∧ jiv μ' (q + 1) = jiv μ (q + 1) ∧ ∀ a j, a ≠ q → j ≠ i → jiv μ' a j = jiv μ a j
section LEX2
variable {μ μ' μ'' : jM} {q d i p k n B f : Nat} {bs : List Nat} {c : Nat} {L : List T3} {v : Int32}
theorem SCF.refl : SCF q i μ μ := ⟨TF.refl, rfl, rfl, rfl, fun _ _ _ _ => rfl⟩
theorem SCF.trans (a : SCF q i μ μ') (b : SCF q i μ' μ'') : SCF q i μ μ'' := ⟨a.1.trans b.1, b.2.1.trans a.2.1, b.2.2.1.trans a.2.2.1, b.2.2.2.1.trans a.2.2.2.1, fun x j hx hj => (b.2.2.2.2 x j hx hj).trans (a.2.2.2.2 x j hx hj)⟩
/-- next goes on -/
theorem scf_next (F : SCF q i μ μ') : SCF q i μ (jsetI μ' q 2 v) := by
  obtain ⟨h1, h2, h3, h4, h5⟩ := F
  refine ⟨TF.setI h1 (by omega), ?_, ?_, ?_, fun a j ha hj => ?_⟩
  · simp only [ty_setI, ty_setR, ty_rowI, ty_rowR, jk_setI, jk_setR, jk_rowI, jk_rowR, jl_setI, jl_setR, jl_rowI, jl_rowR, sz_setI, sz_setR, sz_rowI, sz_rowR, ext_setI, ext_setR, iv_setI, iv_setR, iv_rowI, iv_rowR, rv_setI, rv_setR, rv_rowI, rv_rowR, iv_setIn, iv_rowIn, rv_setRn, rv_rowRn, iv_rowIe, rv_rowRe, show ¬ (1 : Nat) = 2 by decide, and_false, if_false]; exact h2
  · simp only [ty_setI, ty_setR, ty_rowI, ty_rowR, jk_setI, jk_setR, jk_rowI, jk_rowR, jl_setI, jl_setR, jl_rowI, jl_rowR, sz_setI, sz_setR, sz_rowI, sz_rowR, ext_setI, ext_setR, iv_setI, iv_setR, iv_rowI, iv_rowR, rv_setI, rv_setR, rv_rowI, rv_rowR, iv_setIn, iv_rowIn, rv_setRn, rv_rowRn, iv_rowIe, rv_rowRe, show ¬ (6 : Nat) = 2 by decide, and_false, if_false]; exact h3
  · simp only [ty_setI, ty_setR, ty_rowI, ty_rowR, jk_setI, jk_setR, jk_rowI, jk_rowR, jl_setI, jl_setR, jl_rowI, jl_rowR, sz_setI, sz_setR, sz_rowI, sz_rowR, ext_setI, ext_setR, iv_setI, iv_setR, iv_rowI, iv_rowR, rv_setI, rv_setR, rv_rowI, rv_rowR, iv_setIn, iv_rowIn, rv_setRn, rv_rowRn, iv_rowIe, rv_rowRe, show ¬ q + 1 = q by omega, not_false_eq_true]; exact h4
  · simp only [ty_setI, ty_setR, ty_rowI, ty_rowR, jk_setI, jk_setR, jk_rowI, jk_rowR, jl_setI, jl_setR, jl_rowI, jl_rowR, sz_setI, sz_setR, sz_rowI, sz_rowR, ext_setI, ext_setR, iv_setI, iv_setR, iv_rowI, iv_rowR, rv_setI, rv_setR, rv_rowI, rv_rowR, iv_setIn, iv_rowIn, rv_setRn, rv_rowRn, iv_rowIe, rv_rowRe, ha, false_and, if_false]; exact h5 a j ha hj
/-- a number of token i -/
theorem scf_set (F : SCF q i μ μ') (a : Nat) (ha : a = q + 2 ∨ a = q + 3 ∨ a = q + 4) : SCF q i μ (jsetI μ' a i v) := by
  obtain ⟨h1, h2, h3, h4, h5⟩ := F
  refine ⟨TF.setI h1 (by omega), ?_, ?_, ?_, fun b j hb hj => ?_⟩
  · simp only [ty_setI, ty_setR, ty_rowI, ty_rowR, jk_setI, jk_setR, jk_rowI, jk_rowR, jl_setI, jl_setR, jl_rowI, jl_rowR, sz_setI, sz_setR, sz_rowI, sz_rowR, ext_setI, ext_setR, iv_setI, iv_setR, iv_rowI, iv_rowR, rv_setI, rv_setR, rv_rowI, rv_rowR, iv_setIn, iv_rowIn, rv_setRn, rv_rowRn, iv_rowIe, rv_rowRe, show ¬ q = a by omega, false_and, if_false]; exact h2
  · simp only [ty_setI, ty_setR, ty_rowI, ty_rowR, jk_setI, jk_setR, jk_rowI, jk_rowR, jl_setI, jl_setR, jl_rowI, jl_rowR, sz_setI, sz_setR, sz_rowI, sz_rowR, ext_setI, ext_setR, iv_setI, iv_setR, iv_rowI, iv_rowR, rv_setI, rv_setR, rv_rowI, rv_rowR, iv_setIn, iv_rowIn, rv_setRn, rv_rowRn, iv_rowIe, rv_rowRe, show ¬ q = a by omega, false_and, if_false]; exact h3
  · simp only [ty_setI, ty_setR, ty_rowI, ty_rowR, jk_setI, jk_setR, jk_rowI, jk_rowR, jl_setI, jl_setR, jl_rowI, jl_rowR, sz_setI, sz_setR, sz_rowI, sz_rowR, ext_setI, ext_setR, iv_setI, iv_setR, iv_rowI, iv_rowR, rv_setI, rv_setR, rv_rowI, rv_rowR, iv_setIn, iv_rowIn, rv_setRn, rv_rowRn, iv_rowIe, rv_rowRe, show ¬ q + 1 = a by omega, not_false_eq_true]; exact h4
  · simp only [ty_setI, ty_setR, ty_rowI, ty_rowR, jk_setI, jk_setR, jk_rowI, jk_rowR, jl_setI, jl_setR, jl_rowI, jl_rowR, sz_setI, sz_setR, sz_rowI, sz_rowR, ext_setI, ext_setR, iv_setI, iv_setR, iv_rowI, iv_rowR, rv_setI, rv_setR, rv_rowI, rv_rowR, iv_setIn, iv_rowIn, rv_setRn, rv_rowRn, iv_rowIe, rv_rowRe, hj, and_false, if_false]; exact h5 b j hb hj
theorem SCF.tb (F : SCF q i μ μ') (h : TB μ q bs) : TB μ' q bs := h.fr F.2.1 F.2.2.2.1
theorem dval_snoc {ds : List Nat} : dval (ds ++ [c]) = dval ds * 10 + c - 48 := by
  unfold dval
  rw [List.foldl_append]; rfl
/-- an entry of an array of the tape -/
theorem ent_get {a l : Nat} (hk : jk μ a = 20) (hl : jl μ a = l) (hi : i < l) (h : l < 1000) : jaI μ (.ref a) (N i) = some (jiv μ a i) := by
  rw [aI_eq, if_pos ⟨Or.inl hk, by rw [jinb_N (by omega), hl]; exact decide_eq_true hi⟩, N_nat (by omega)]
theorem ent_set {a l : Nat} (hk : jk μ a = 20) (hl : jl μ a = l) (hi : i < l) (h : l < 1000) : jsI μ (.ref a) (N i) v = some (jsetI μ a i v) := by
  rw [sI_eq, if_pos ⟨hk, by rw [jinb_N (by omega), hl]; exact decide_eq_true hi⟩, N_nat (by omega)]
theorem num_loop (hi : i < 41) : ∀ (r A ds : List Nat) (μ : jM), bs = A ++ r → TQ μ q → TB μ q bs → jiv μ q 2 = N A.length → jiv μ (q + 4) i = N (dval ds) → ∃ μ', jR (d + 1) 136 0 [.ref q, .int (N i)] [] μ = jR (d + 1) 136 67 [.ref q, .int (N i)] [] μ' ∧ SCF q i μ μ' ∧ jiv μ' q 2 = N (A.length + (r.takeWhile isDg).length) ∧ jiv μ' (q + 4) i = N (dval (ds ++ r.takeWhile isDg)) ∧ jiv μ' (q + 3) i = jiv μ (q + 3) i := by
  intro r
  induction r with
  | nil =>
    intro A ds μ hA hq hb hn hv
    refine ⟨μ, ?_, SCF.refl, by simpa using hn, by simpa using hv, rfl⟩
    have hl : bs.length = A.length := by rw [hA, List.append_nil]
    simp only [b136_0, gI10, gR10, pI10, pR10, rv10, aI_eq, aB_eq, aR_eq, sI_eq, sB_eq, sR_eq, Option.bind_some, Option.bind_none, if_true, if_false, true_or, or_true, false_or, or_false, true_and, and_true, false_and, and_false, decide_eq_true_eq, decide_true, decide_false, eq_self, not_true_eq_false, not_false_eq_true, jfit0, N_lit, N_add, N_mul, NEG_eq, pl_none, pl_some, rf_some, rf_none, jun_ref, jun_null, ir_ref, ir_null, jr_rf, jun_rf, Option.toList_some, Option.toList_none, List.nil_append, List.cons_append, hq.1.1, hn, hb.1, hl, N_lt (show A.length < 2147483648 by have := hb.2.1; omega) (show A.length < 2147483648 by have := hb.2.1; omega), Nat.lt_irrefl]
  | cons c r ih =>
    intro A ds μ hA hq hb hn hv
    have hc : bs[A.length]? = some c := by rw [hA, List.getElem?_append_right (Nat.le_refl _), Nat.sub_self]; rfl
    obtain ⟨c1, c2, c3, c4⟩ := byte_at hq hb hc
    have h40 := hb.2.1
    have lt : (N A.length < N bs.length) = True := by rw [N_lt (by omega) (by omega)]; exact eq_true c3
    cases e : isDg c with
    | false =>
      refine ⟨μ, ?_, SCF.refl, ?_, ?_, rfl⟩
      · simp only [b136_0, b136_23, gI10, gR10, pI10, pR10, rv10, Option.bind_some, Option.bind_none, if_true, if_false, true_or, or_true, false_or, or_false, true_and, and_true, false_and, and_false, decide_eq_true_eq, decide_true, decide_false, eq_self, not_true_eq_false, not_false_eq_true, jfit0, N_lit, N_add, N_mul, NEG_eq, pl_none, pl_some, rf_some, rf_none, jun_ref, jun_null, ir_ref, ir_null, jr_rf, jun_rf, Option.toList_some, Option.toList_none, List.nil_append, List.cons_append, hq.1.1, hq.2.1, hn, hb.1, lt, c1, x_isDigit c2, bN_0, e]
      · rw [List.takeWhile_cons, e]; exact hn
      · rw [List.takeWhile_cons, e, if_neg (by decide), List.append_nil]; exact hv
    | true =>
      have c48 : 48 ≤ c := by
        unfold isDg at e
        rw [Bool.and_eq_true] at e
        exact Nat.le_of_ble_eq_true e.1
      have g4 := ent_get hq.1.2.2.2.2.2.2.2.1 hq.1.2.2.2.2.2.2.2.2 hi (by decide)
      have s4 := ent_set (v := N (dval ds * 10 + c - 48)) hq.1.2.2.2.2.2.2.2.1 hq.1.2.2.2.2.2.2.2.2 hi (by decide)
      have ev : N (dval ds * 10 + c) - N 48 = N (dval ds * 10 + c - 48) := N_sub (by omega)
      have F : SCF q i μ (jsetI (jsetI μ (q + 4) i (N (dval ds * 10 + c - 48))) q 2 (N (A.length + 1))) := scf_next (scf_set SCF.refl (q + 4) (Or.inr (Or.inr rfl)))
      obtain ⟨μ', r1, r2, r3, r4, r5⟩ := ih (A ++ [c]) (ds ++ [c]) _ (by rw [hA]; simp) (hq.fr F.1) (F.tb hb) (by simp only [ty_setI, ty_setR, ty_rowI, ty_rowR, jk_setI, jk_setR, jk_rowI, jk_rowR, jl_setI, jl_setR, jl_rowI, jl_rowR, sz_setI, sz_setR, sz_rowI, sz_rowR, ext_setI, ext_setR, iv_setI, iv_setR, iv_rowI, iv_rowR, rv_setI, rv_setR, rv_rowI, rv_rowR, iv_setIn, iv_rowIn, rv_setRn, rv_rowRn, iv_rowIe, rv_rowRe, and_self, if_true, List.length_append, List.length_cons, List.length_nil]) (by
        rw [dval_snoc]
        simp only [ty_setI, ty_setR, ty_rowI, ty_rowR, jk_setI, jk_setR, jk_rowI, jk_rowR, jl_setI, jl_setR, jl_rowI, jl_rowR, sz_setI, sz_setR, sz_rowI, sz_rowR, ext_setI, ext_setR, iv_setI, iv_setR, iv_rowI, iv_rowR, rv_setI, rv_setR, rv_rowI, rv_rowR, iv_setIn, iv_rowIn, rv_setRn, rv_rowRn, iv_rowIe, rv_rowRe, show ¬ q + 4 = q by omega, false_and, if_false, and_self, if_true])
      refine ⟨μ', ?_, F.trans r2, ?_, ?_, r5.trans ?_⟩
      · rw [← r1]
        simp only [b136_0, b136_23, gI10, gR10, pI10, pR10, rv10, Option.bind_some, Option.bind_none, if_true, if_false, true_or, or_true, false_or, or_false, true_and, and_true, false_and, and_false, decide_eq_true_eq, decide_true, decide_false, eq_self, not_true_eq_false, not_false_eq_true, jfit0, N_lit, N_add, N_mul, NEG_eq, pl_none, pl_some, rf_some, rf_none, jun_ref, jun_null, ir_ref, ir_null, jr_rf, jun_rf, Option.toList_some, Option.toList_none, List.nil_append, List.cons_append, ty_setI, ty_setR, ty_rowI, ty_rowR, jk_setI, jk_setR, jk_rowI, jk_rowR, jl_setI, jl_setR, jl_rowI, jl_rowR, sz_setI, sz_setR, sz_rowI, sz_rowR, ext_setI, ext_setR, iv_setI, iv_setR, iv_rowI, iv_rowR, rv_setI, rv_setR, rv_rowI, rv_rowR, iv_setIn, iv_rowIn, rv_setRn, rv_rowRn, iv_rowIe, rv_rowRe, hq.1.1, hq.2.1, hq.2.2.2.2, hn, hb.1, lt, c1, x_isDigit c2, bN_0, e, reduceCtorEq, g4, hv, ev, s4, show ¬ q = q + 4 by omega]
      · rw [r3, List.takeWhile_cons, e]
        simp only [if_true, List.length_append, List.length_cons, List.length_nil]
        congr 1; omega
      · rw [r4, List.takeWhile_cons, e]
        simp only [if_true, List.append_assoc, List.cons_append, List.nil_append]
      · simp only [ty_setI, ty_setR, ty_rowI, ty_rowR, jk_setI, jk_setR, jk_rowI, jk_rowR, jl_setI, jl_setR, jl_rowI, jl_rowR, sz_setI, sz_setR, sz_rowI, sz_rowR, ext_setI, ext_setR, iv_setI, iv_setR, iv_rowI, iv_rowR, rv_setI, rv_setR, rv_rowI, rv_rowR, iv_setIn, iv_rowIn, rv_setRn, rv_rowRn, iv_rowIe, rv_rowRe, show ¬ q + 3 = q by omega, show ¬ q + 3 = q + 4 by omega, false_and, if_false]
/-- a number's token -/
theorem x_scanNumber {r A : List Nat} (hi : i < 41) (hA : bs = A ++ r) (hq : TQ μ q) (hb : TB μ q bs) (hn : jiv μ q 2 = N A.length) (hv : jiv μ (q + 4) i = N 0) (hs : jiv μ (q + 3) i = N A.length) : ∃ μ', jC (d + 1) 136 [.ref q, .int (N i)] μ = some (none, μ') ∧ SCF q i μ μ' ∧ jiv μ' q 2 = N (A.length + (r.takeWhile isDg).length) ∧ jiv μ' (q + 2) i = N (if 6 < (r.takeWhile isDg).length then 1 else 48) ∧ jiv μ' (q + 3) i = N A.length ∧ jiv μ' (q + 4) i = N (dval (r.takeWhile isDg)) := by
  obtain ⟨μ1, r1, r2, r3, r4, r5⟩ := num_loop (d := d) hi r A [] μ hA hq hb hn hv
  rw [List.nil_append] at r4
  have hq1 := hq.fr r2.1
  have hlen : (r.takeWhile isDg).length ≤ r.length := (List.takeWhile_prefix isDg).length_le
  have h40 : A.length + r.length ≤ 40 := by
    have := hb.2.1
    rw [hA, List.length_append] at this; exact this
  have g3 := ent_get hq1.1.2.2.2.2.2.1 hq1.1.2.2.2.2.2.2.1 hi (by decide)
  have s2 := fun v => ent_set (v := v) hq1.1.2.2.2.1 hq1.1.2.2.2.2.1 hi (by decide)
  have esub : N (A.length + (r.takeWhile isDg).length) - N A.length = N (r.takeWhile isDg).length := by
    rw [N_sub (by omega)]; congr 1; omega
  refine ⟨jsetI μ1 (q + 2) i (N (if 6 < (r.takeWhile isDg).length then 1 else 48)), ?_, scf_set r2 (q + 2) (Or.inl rfl), ?_, ?_, ?_, ?_⟩
  · rw [jC_run (by decide)]
    show jR (d + 1) 136 0 [.ref q, .int (N i)] [] μ = _
    rw [r1]
    simp only [b136_67, gI10, gR10, pI10, pR10, rv10, Option.bind_some, Option.bind_none, if_true, if_false, true_or, or_true, false_or, or_false, true_and, and_true, false_and, and_false, decide_eq_true_eq, decide_true, decide_false, eq_self, not_true_eq_false, not_false_eq_true, jfit0, N_lit, N_add, N_mul, NEG_eq, pl_none, pl_some, rf_some, rf_none, jun_ref, jun_null, ir_ref, ir_null, jr_rf, jun_rf, Option.toList_some, Option.toList_none, List.nil_append, List.cons_append, hq1.1.1, hq1.2.2.1, hq1.2.2.2.1, r3, g3, r5, hs, esub, N_lt (show 6 < 2147483648 by decide) (show (r.takeWhile isDg).length < 2147483648 by omega), b136_94, s2]
    split <;> rfl
  · simp only [ty_setI, ty_setR, ty_rowI, ty_rowR, jk_setI, jk_setR, jk_rowI, jk_rowR, jl_setI, jl_setR, jl_rowI, jl_rowR, sz_setI, sz_setR, sz_rowI, sz_rowR, ext_setI, ext_setR, iv_setI, iv_setR, iv_rowI, iv_rowR, rv_setI, rv_setR, rv_rowI, rv_rowR, iv_setIn, iv_rowIn, rv_setRn, rv_rowRn, iv_rowIe, rv_rowRe, show ¬ q = q + 2 by omega, false_and, if_false]; exact r3
  · simp only [ty_setI, ty_setR, ty_rowI, ty_rowR, jk_setI, jk_setR, jk_rowI, jk_rowR, jl_setI, jl_setR, jl_rowI, jl_rowR, sz_setI, sz_setR, sz_rowI, sz_rowR, ext_setI, ext_setR, iv_setI, iv_setR, iv_rowI, iv_rowR, rv_setI, rv_setR, rv_rowI, rv_rowR, iv_setIn, iv_rowIn, rv_setRn, rv_rowRn, iv_rowIe, rv_rowRe, and_self, if_true]
  · simp only [ty_setI, ty_setR, ty_rowI, ty_rowR, jk_setI, jk_setR, jk_rowI, jk_rowR, jl_setI, jl_setR, jl_rowI, jl_rowR, sz_setI, sz_setR, sz_rowI, sz_rowR, ext_setI, ext_setR, iv_setI, iv_setR, iv_rowI, iv_rowR, rv_setI, rv_setR, rv_rowI, rv_rowR, iv_setIn, iv_rowIn, rv_setRn, rv_rowRn, iv_rowIe, rv_rowRe, show ¬ q + 3 = q + 2 by omega, false_and, if_false]; exact r5.trans hs
  · simp only [ty_setI, ty_setR, ty_rowI, ty_rowR, jk_setI, jk_setR, jk_rowI, jk_rowR, jl_setI, jl_setR, jl_rowI, jl_rowR, sz_setI, sz_setR, sz_rowI, sz_rowR, ext_setI, ext_setR, iv_setI, iv_setR, iv_rowI, iv_rowR, rv_setI, rv_setR, rv_rowI, rv_rowR, iv_setIn, iv_rowIn, rv_setRn, rv_rowRn, iv_rowIe, rv_rowRe, show ¬ q + 4 = q + 2 by omega, false_and, if_false]; exact r4
/-- whether a word stands there -/
theorem x_reads {a t : Nat} {s w A R : List Nat} (hx : jX μ) (hst : ST μ a t s) (hA : bs = A ++ (w ++ R)) (hq : TQ μ q) (hb : TB μ q bs) (hn : jiv μ q 2 = N (A.length + w.length)) : jC (d + 4) 139 [.ref q, .ref a, .int (N A.length)] μ = some (some (.int (bN (decide (w = s)))), μ) := by
  have h40 : A.length + w.length ≤ 40 := by
    have := hb.2.1
    rw [hA, List.length_append, List.length_append] at this; omega
  have hs1 := hst.2.2.2.2.2.1
  have esub : N (A.length + w.length) - N A.length = N w.length := by
    rw [N_sub (by omega)]; congr 1; omega
  rw [jC_run (by decide)]
  show jR (d + 4) 139 0 [.ref q, .ref a, .int (N A.length), .retAddr 0] [] μ = _
  rw [b139_0 (h1 := ir_ref)]
  simp only [gI10, gR10, pI10, pR10, rv10, Option.bind_some, Option.bind_none, if_true, if_false, true_or, or_true, false_or, or_false, true_and, and_true, false_and, and_false, decide_eq_true_eq, decide_true, decide_false, eq_self, not_true_eq_false, not_false_eq_true, jfit0, N_lit, N_add, N_mul, NEG_eq, pl_none, pl_some, rf_some, rf_none, jun_ref, jun_null, ir_ref, ir_null, jr_rf, jun_rf, Option.toList_some, Option.toList_none, List.nil_append, List.cons_append, hq.1.1, hn, rv0' hst.1, st_length hx hst, esub]
  rw [b139_10 (h1 := ir_ref)]
  simp only [N_inj (show w.length < 2147483648 by omega) (show s.length < 2147483648 by omega)]
  by_cases e : w.length = s.length
  · rw [if_pos e]
    have loop : ∀ k j, j + k = s.length → (∀ x, x < j → w[x]? = s[x]?) → jR (d + 4) 139 17 [.ref q, .ref a, .int (N A.length), .int (N j)] [] μ = some (some (.int (bN (decide (w = s)))), μ) := by
      intro k
      induction k with
      | zero =>
        intro j hj hp
        have ew : w = s := by
          apply List.ext_getElem?
          intro x
          by_cases hxj : x < j
          · exact hp x hxj
          · rw [List.getElem?_eq_none (by omega), List.getElem?_eq_none (by omega)]
        rw [b139_17 (h1 := ir_ref)]
        simp only [Option.bind_some, Option.bind_none, if_true, if_false, true_or, or_true, false_or, or_false, true_and, and_true, false_and, and_false, decide_eq_true_eq, decide_true, decide_false, eq_self, not_true_eq_false, not_false_eq_true, jfit0, N_lit, N_add, N_mul, NEG_eq, pl_none, pl_some, rf_some, rf_none, jun_ref, jun_null, ir_ref, ir_null, jr_rf, jun_rf, Option.toList_some, Option.toList_none, List.nil_append, List.cons_append, rv0' hst.1, st_length hx hst]
        rw [b139_22 (h1 := ir_ref), if_neg (by rw [N_lt (by omega) (by omega)]; omega), decide_eq_true ew]
        rfl
      | succ k ih =>
        intro j hj hp
        have hjs : j < s.length := by omega
        have hjw : j < w.length := by omega
        obtain ⟨cs, hcs⟩ : ∃ c, s[j]? = some c := ⟨_, List.getElem?_eq_getElem hjs⟩
        obtain ⟨cw, hcw⟩ : ∃ c, w[j]? = some c := ⟨_, List.getElem?_eq_getElem hjw⟩
        have hcb : bs[A.length + j]? = some cw := by
          rw [hA, List.getElem?_append_right (by omega), show A.length + j - A.length = j by omega, List.getElem?_append_left hjw]; exact hcw
        obtain ⟨b1, b2, b3, b4⟩ := byte_at hq hb hcb
        have hc1 := (hst.2.2.2.2.2.2 j cs hcs).2
        have e283 : jC (d + 3) 283 [.ref a, .int (N j)] μ = some (some (.int (N cs)), μ) := st_charAt (d := d) hx hst hcs
        rw [b139_17 (h1 := ir_ref)]
        simp only [Option.bind_some, Option.bind_none, if_true, if_false, true_or, or_true, false_or, or_false, true_and, and_true, false_and, and_false, decide_eq_true_eq, decide_true, decide_false, eq_self, not_true_eq_false, not_false_eq_true, jfit0, N_lit, N_add, N_mul, NEG_eq, pl_none, pl_some, rf_some, rf_none, jun_ref, jun_null, ir_ref, ir_null, jr_rf, jun_rf, Option.toList_some, Option.toList_none, List.nil_append, List.cons_append, rv0' hst.1, st_length hx hst]
        rw [b139_22 (h1 := ir_ref), if_pos (by rw [N_lt (by omega) (by omega)]; exact hjs)]
        simp only [gI10, gR10, pI10, pR10, rv10, Option.bind_some, Option.bind_none, if_true, if_false, true_or, or_true, false_or, or_false, true_and, and_true, false_and, and_false, decide_eq_true_eq, decide_true, decide_false, eq_self, not_true_eq_false, not_false_eq_true, jfit0, N_lit, N_add, N_mul, NEG_eq, pl_none, pl_some, rf_some, rf_none, jun_ref, jun_null, ir_ref, ir_null, jr_rf, jun_rf, Option.toList_some, Option.toList_none, List.nil_append, List.cons_append, hq.1.1, hq.2.1, b1, rv0' hst.1, e283]
        rw [b139_38 (h1 := ir_ref)]
        simp only [N_inj (show cw < 2147483648 by omega) (show cs < 2147483648 by omega)]
        by_cases ec : cw = cs
        · rw [if_pos ec, N_lit, N_add]
          refine ih (j + 1) (by omega) (fun x hx => ?_)
          by_cases exj : x = j
          · rw [exj, hcw, hcs, ec]
          · exact hp x (by omega)
        · rw [if_neg ec, decide_eq_false (fun g => ec (by rw [g, hcs] at hcw; exact (Option.some.inj hcw).symm))]
          rfl
    exact loop s.length 0 (by omega) (fun x hx => absurd hx (Nat.not_lt_zero x))
  · rw [if_neg e, decide_eq_false (fun g => e (by rw [g]))]
    rfl
theorem word_loop {i2 : Value} {v2 : Int32} (h2 : i2 = .int v2) : ∀ (r A : List Nat) (μ : jM), bs = A ++ r → TQ μ q → TB μ q bs → jiv μ q 2 = N A.length → ∃ μ', jR (d + 1) 138 5 [.ref q, .int (N i), i2] [] μ = jR (d + 1) 138 44 [.ref q, .int (N i), i2] [] μ' ∧ SCF q i μ μ' ∧ jiv μ' q 2 = N (A.length + (r.takeWhile isLt).length) ∧ ∀ a, a ≠ q → jiv μ' a = jiv μ a := by
  subst h2
  intro r
  induction r with
  | nil =>
    intro A μ hA hq hb hn
    refine ⟨μ, ?_, SCF.refl, by simpa using hn, fun _ _ => rfl⟩
    have hl : bs.length = A.length := by rw [hA, List.append_nil]
    simp only [b138_5, gI10, gR10, pI10, pR10, rv10, aI_eq, aB_eq, aR_eq, sI_eq, sB_eq, sR_eq, Option.bind_some, Option.bind_none, if_true, if_false, true_or, or_true, false_or, or_false, true_and, and_true, false_and, and_false, decide_eq_true_eq, decide_true, decide_false, eq_self, not_true_eq_false, not_false_eq_true, jfit0, N_lit, N_add, N_mul, NEG_eq, pl_none, pl_some, rf_some, rf_none, jun_ref, jun_null, ir_ref, ir_null, jr_rf, jun_rf, Option.toList_some, Option.toList_none, List.nil_append, List.cons_append, hq.1.1, hn, hb.1, hl, N_lt (show A.length < 2147483648 by have := hb.2.1; omega) (show A.length < 2147483648 by have := hb.2.1; omega), Nat.lt_irrefl]
  | cons c r ih =>
    intro A μ hA hq hb hn
    have hc : bs[A.length]? = some c := by rw [hA, List.getElem?_append_right (Nat.le_refl _), Nat.sub_self]; rfl
    obtain ⟨c1, c2, c3, c4⟩ := byte_at hq hb hc
    have h40 := hb.2.1
    have lt : (N A.length < N bs.length) = True := by rw [N_lt (by omega) (by omega)]; exact eq_true c3
    cases e : isLt c with
    | false =>
      refine ⟨μ, ?_, SCF.refl, ?_, fun _ _ => rfl⟩
      · simp only [b138_5, b138_28, gI10, gR10, pI10, pR10, rv10, Option.bind_some, Option.bind_none, if_true, if_false, true_or, or_true, false_or, or_false, true_and, and_true, false_and, and_false, decide_eq_true_eq, decide_true, decide_false, eq_self, not_true_eq_false, not_false_eq_true, jfit0, N_lit, N_add, N_mul, NEG_eq, pl_none, pl_some, rf_some, rf_none, jun_ref, jun_null, ir_ref, ir_null, jr_rf, jun_rf, Option.toList_some, Option.toList_none, List.nil_append, List.cons_append, hq.1.1, hq.2.1, hn, hb.1, lt, c1, x_isLetter c2, bN_0, e]
      · rw [List.takeWhile_cons, e]; exact hn
    | true =>
      have F : SCF q i μ (jsetI μ q 2 (N (A.length + 1))) := scf_next SCF.refl
      obtain ⟨μ', r1, r2, r3, r4⟩ := ih (A ++ [c]) _ (by rw [hA]; simp) (hq.fr F.1) (F.tb hb) (by simp only [ty_setI, ty_setR, ty_rowI, ty_rowR, jk_setI, jk_setR, jk_rowI, jk_rowR, jl_setI, jl_setR, jl_rowI, jl_rowR, sz_setI, sz_setR, sz_rowI, sz_rowR, ext_setI, ext_setR, iv_setI, iv_setR, iv_rowI, iv_rowR, rv_setI, rv_setR, rv_rowI, rv_rowR, iv_setIn, iv_rowIn, rv_setRn, rv_rowRn, iv_rowIe, rv_rowRe, and_self, if_true, List.length_append, List.length_cons, List.length_nil])
      refine ⟨μ', ?_, F.trans r2, ?_, fun a ha => (r4 a ha).trans (by simp only [ty_setI, ty_setR, ty_rowI, ty_rowR, jk_setI, jk_setR, jk_rowI, jk_rowR, jl_setI, jl_setR, jl_rowI, jl_rowR, sz_setI, sz_setR, sz_rowI, sz_rowR, ext_setI, ext_setR, iv_setI, iv_setR, iv_rowI, iv_rowR, rv_setI, rv_setR, rv_rowI, rv_rowR, iv_setIn, iv_rowIn, rv_setRn, rv_rowRn, iv_rowIe, rv_rowRe, ha, not_false_eq_true])⟩
      · rw [← r1]
        simp only [b138_5, b138_28, gI10, gR10, pI10, pR10, rv10, Option.bind_some, Option.bind_none, if_true, if_false, true_or, or_true, false_or, or_false, true_and, and_true, false_and, and_false, decide_eq_true_eq, decide_true, decide_false, eq_self, not_true_eq_false, not_false_eq_true, jfit0, N_lit, N_add, N_mul, NEG_eq, pl_none, pl_some, rf_some, rf_none, jun_ref, jun_null, ir_ref, ir_null, jr_rf, jun_rf, Option.toList_some, Option.toList_none, List.nil_append, List.cons_append, hq.1.1, hq.2.1, hn, hb.1, lt, c1, x_isLetter c2, bN_0, e, reduceCtorEq]
      · rw [r3, List.takeWhile_cons, e]
        simp only [if_true, List.length_append, List.length_cons, List.length_nil]
        congr 1; omega
/-- a word's token -/
theorem x_scanWord {r A : List Nat} (hk : KX μ B) (hj : JW μ) (hB : B ≤ q) (hi : i < 41) (hA : bs = A ++ r) (hr : (r.takeWhile isLt).length ≠ 0) (hq : TQ μ q) (hb : TB μ q bs) (hn : jiv μ q 2 = N A.length) (hv : jiv μ (q + 4) i = N 0) (hs : jiv μ (q + 3) i = N A.length) : ∃ μ', jC (d + 5) 138 [.ref q, .int (N i)] μ = some (none, μ') ∧ SCF q i μ μ' ∧ jiv μ' q 2 = N (A.length + (r.takeWhile isLt).length) ∧ jiv μ' (q + 2) i = N (if (r.takeWhile isLt).length = 1 ∧ r.headD 0 < 100 then 97 else wkind (r.takeWhile isLt)) ∧ jiv μ' (q + 3) i = N A.length ∧ jiv μ' (q + 4) i = N (if (r.takeWhile isLt).length = 1 ∧ r.headD 0 < 100 then r.headD 0 - 97 else 0) := by
  obtain ⟨μ1, r1, r2, r3, r4⟩ := word_loop (d := d + 4) (q := q) (i := i) (i2 := .int (N A.length)) rfl r A μ hA hq hb hn
  have hq1 := hq.fr r2.1
  have hb1 := r2.tb hb
  have hk1 := hk.fx hj r2.1 (fun b hb g => by omega) (fun _ _ _ g => g)
  have hv1 : jiv μ1 (q + 4) i = N 0 := by rw [r4 _ (by omega)]; exact hv
  have hs1 : jiv μ1 (q + 3) i = N A.length := by rw [r4 _ (by omega)]; exact hs
  have h40 : A.length + r.length ≤ 40 := by
    have := hb.2.1
    rw [hA, List.length_append] at this; exact this
  have hlen : (r.takeWhile isLt).length ≤ r.length := (List.takeWhile_prefix isLt).length_le
  have esub : N (A.length + (r.takeWhile isLt).length) - N A.length = N (r.takeWhile isLt).length := by
    rw [N_sub (by omega)]; congr 1; omega
  have g2 := fun v => ent_set (v := v) hq1.1.2.2.2.1 hq1.1.2.2.2.2.1 hi (by decide)
  obtain ⟨c, r', hr'⟩ : ∃ c r', r = c :: r' := by
    cases r with
    | nil => exact absurd rfl hr
    | cons c r' => exact ⟨c, r', rfl⟩
  have hcb : bs[A.length]? = some c := by rw [hA, hr', List.getElem?_append_right (Nat.le_refl _), Nat.sub_self]; rfl
  have hhd : r.headD 0 = c := by rw [hr']; rfl
  rw [hhd]
  obtain ⟨b1, b2, b3, b4⟩ := byte_at hq1 hb1 hcb
  have hclt : isLt c = true := by
    cases e : isLt c with
    | true => rfl
    | false => rw [hr', List.takeWhile_cons, e] at hr; exact absurd rfl hr
  have hc97 : 97 ≤ c := by
    unfold isLt at hclt
    rw [Bool.and_eq_true] at hclt
    exact Nat.le_of_ble_eq_true hclt.1
  have begin_ : jC (d + 5) 138 [.ref q, .int (N i)] μ = jR (d + 5) 138 44 [.ref q, .int (N i), .int (N A.length)] [] μ1 := by
    rw [jC_run (by decide)]
    show jR (d + 5) 138 0 [.ref q, .int (N i), .retAddr 0] [] μ = _
    rw [← r1]
    simp only [b138_0, gI10, gR10, pI10, pR10, rv10, aI_eq, aB_eq, aR_eq, sI_eq, sB_eq, sR_eq, Option.bind_some, Option.bind_none, if_true, if_false, true_or, or_true, false_or, or_false, true_and, and_true, false_and, and_false, decide_eq_true_eq, decide_true, decide_false, eq_self, not_true_eq_false, not_false_eq_true, jfit0, N_lit, N_add, N_mul, NEG_eq, pl_none, pl_some, rf_some, rf_none, jun_ref, jun_null, ir_ref, ir_null, jr_rf, jun_rf, Option.toList_some, Option.toList_none, List.nil_append, List.cons_append, hq.1.1, hn]
  rw [begin_]
  have word : ¬ ((r.takeWhile isLt).length = 1 ∧ c < 100) → ∃ μ', jR (d + 5) 138 91 [.ref q, .int (N i), .int (N A.length)] [] μ1 = some (none, μ') ∧ SCF q i μ μ' ∧ jiv μ' q 2 = N (A.length + (r.takeWhile isLt).length) ∧ jiv μ' (q + 2) i = N (wkind (r.takeWhile isLt)) ∧ jiv μ' (q + 3) i = N A.length ∧ jiv μ' (q + 4) i = N 0 := by
    intro _
    have hA2 : bs = A ++ (r.takeWhile isLt ++ r.dropWhile isLt) := by rw [List.takeWhile_append_dropWhile]; exact hA
    have rd : ∀ j s, kw j = some s → jC (d + 4) 139 [.ref q, jext μ1 j, .int (N A.length)] μ1 = some (some (.int (bN (decide (r.takeWhile isLt = s)))), μ1) := fun j s h => by
      obtain ⟨a, t, -, -, k3, k4⟩ := hk1.2.2.2 j s h
      rw [k3]
      exact x_reads (d := d) hk1.1 k4 hA2 hq1 hb1 r3
    have fin : ∀ v, jR (d + 5) 138 157 [.ref q, .int (N i), .int (N A.length)] [.int v, .int (N i), .ref (q + 2)] μ1 = some (none, jsetI μ1 (q + 2) i v) := fun v => by
      rw [b138_157 (hs0 := ir_ref), g2 v]
      simp only [aI_eq, aB_eq, aR_eq, sI_eq, sB_eq, sR_eq, Option.bind_some, Option.bind_none, if_true, if_false, true_or, or_true, false_or, or_false, true_and, and_true, false_and, and_false, decide_eq_true_eq, decide_true, decide_false, eq_self, not_true_eq_false, not_false_eq_true, jfit0, N_lit, N_add, N_mul, NEG_eq, pl_none, pl_some, rf_some, rf_none, jun_ref, jun_null, ir_ref, ir_null, jr_rf, jun_rf, Option.toList_some, Option.toList_none, List.nil_append, List.cons_append, b138_158]
    refine ⟨jsetI μ1 (q + 2) i (N (wkind (r.takeWhile isLt))), ?_, scf_set r2 (q + 2) (Or.inl rfl), ?_, ?_, ?_, ?_⟩
    · rw [b138_91 (hx := hk1.1)]
      simp only [gI10, gR10, pI10, pR10, rv10, Option.bind_some, Option.bind_none, if_true, if_false, true_or, or_true, false_or, or_false, true_and, and_true, false_and, and_false, decide_eq_true_eq, decide_true, decide_false, eq_self, not_true_eq_false, not_false_eq_true, jfit0, N_lit, N_add, N_mul, NEG_eq, pl_none, pl_some, rf_some, rf_none, jun_ref, jun_null, ir_ref, ir_null, jr_rf, jun_rf, Option.toList_some, Option.toList_none, List.nil_append, List.cons_append, hq1.1.1, hq1.2.2.1, rd 8 _ rfl]
      rw [b138_103 (hs0 := ir_ref) (hx := hk1.1)]
      simp only [N_lit, bN_0, decide_eq_false_iff_not]
      unfold wkind
      by_cases e1 : r.takeWhile isLt = [116, 111, 116, 97, 108]
      · rw [if_neg (fun g => g e1), if_pos e1]; exact fin _
      · rw [if_pos e1, if_neg e1]
        simp only [gI10, gR10, pI10, pR10, rv10, Option.bind_some, Option.bind_none, if_true, if_false, true_or, or_true, false_or, or_false, true_and, and_true, false_and, and_false, decide_eq_true_eq, decide_true, decide_false, eq_self, not_true_eq_false, not_false_eq_true, jfit0, N_lit, N_add, N_mul, NEG_eq, pl_none, pl_some, rf_some, rf_none, jun_ref, jun_null, ir_ref, ir_null, jr_rf, jun_rf, Option.toList_some, Option.toList_none, List.nil_append, List.cons_append, hq1.1.1, rd 9 _ rfl]
        rw [b138_118 (hs0 := ir_ref) (hx := hk1.1)]
        simp only [N_lit, bN_0, decide_eq_false_iff_not]
        by_cases e2 : r.takeWhile isLt = [109, 111, 115, 116]
        · rw [if_neg (fun g => g e2), if_pos e2]; exact fin _
        · rw [if_pos e2, if_neg e2]
          simp only [gI10, gR10, pI10, pR10, rv10, Option.bind_some, Option.bind_none, if_true, if_false, true_or, or_true, false_or, or_false, true_and, and_true, false_and, and_false, decide_eq_true_eq, decide_true, decide_false, eq_self, not_true_eq_false, not_false_eq_true, jfit0, N_lit, N_add, N_mul, NEG_eq, pl_none, pl_some, rf_some, rf_none, jun_ref, jun_null, ir_ref, ir_null, jr_rf, jun_rf, Option.toList_some, Option.toList_none, List.nil_append, List.cons_append, hq1.1.1, rd 10 _ rfl]
          rw [b138_133 (hs0 := ir_ref) (hx := hk1.1)]
          simp only [N_lit, bN_0, decide_eq_false_iff_not]
          by_cases e3 : r.takeWhile isLt = [108, 101, 97, 115, 116]
          · rw [if_neg (fun g => g e3), if_pos e3]; exact fin _
          · rw [if_pos e3, if_neg e3]
            simp only [gI10, gR10, pI10, pR10, rv10, Option.bind_some, Option.bind_none, if_true, if_false, true_or, or_true, false_or, or_false, true_and, and_true, false_and, and_false, decide_eq_true_eq, decide_true, decide_false, eq_self, not_true_eq_false, not_false_eq_true, jfit0, N_lit, N_add, N_mul, NEG_eq, pl_none, pl_some, rf_some, rf_none, jun_ref, jun_null, ir_ref, ir_null, jr_rf, jun_rf, Option.toList_some, Option.toList_none, List.nil_append, List.cons_append, hq1.1.1, rd 11 _ rfl]
            rw [b138_148 (hs0 := ir_ref)]
            simp only [N_lit, bN_0, decide_eq_false_iff_not]
            by_cases e4 : r.takeWhile isLt = [109, 97, 110, 121]
            · rw [if_neg (fun g => g e4), if_pos e4]; exact fin _
            · rw [if_pos e4, if_neg e4]; exact fin _
    · simp only [ty_setI, ty_setR, ty_rowI, ty_rowR, jk_setI, jk_setR, jk_rowI, jk_rowR, jl_setI, jl_setR, jl_rowI, jl_rowR, sz_setI, sz_setR, sz_rowI, sz_rowR, ext_setI, ext_setR, iv_setI, iv_setR, iv_rowI, iv_rowR, rv_setI, rv_setR, rv_rowI, rv_rowR, iv_setIn, iv_rowIn, rv_setRn, rv_rowRn, iv_rowIe, rv_rowRe, show ¬ q = q + 2 by omega, false_and, if_false]; exact r3
    · simp only [ty_setI, ty_setR, ty_rowI, ty_rowR, jk_setI, jk_setR, jk_rowI, jk_rowR, jl_setI, jl_setR, jl_rowI, jl_rowR, sz_setI, sz_setR, sz_rowI, sz_rowR, ext_setI, ext_setR, iv_setI, iv_setR, iv_rowI, iv_rowR, rv_setI, rv_setR, rv_rowI, rv_rowR, iv_setIn, iv_rowIn, rv_setRn, rv_rowRn, iv_rowIe, rv_rowRe, and_self, if_true]
    · simp only [ty_setI, ty_setR, ty_rowI, ty_rowR, jk_setI, jk_setR, jk_rowI, jk_rowR, jl_setI, jl_setR, jl_rowI, jl_rowR, sz_setI, sz_setR, sz_rowI, sz_rowR, ext_setI, ext_setR, iv_setI, iv_setR, iv_rowI, iv_rowR, rv_setI, rv_setR, rv_rowI, rv_rowR, iv_setIn, iv_rowIn, rv_setRn, rv_rowRn, iv_rowIe, rv_rowRe, show ¬ q + 3 = q + 2 by omega, false_and, if_false]; exact hs1
    · simp only [ty_setI, ty_setR, ty_rowI, ty_rowR, jk_setI, jk_setR, jk_rowI, jk_rowR, jl_setI, jl_setR, jl_rowI, jl_rowR, sz_setI, sz_setR, sz_rowI, sz_rowR, ext_setI, ext_setR, iv_setI, iv_setR, iv_rowI, iv_rowR, rv_setI, rv_setR, rv_rowI, rv_rowR, iv_setIn, iv_rowIn, rv_setRn, rv_rowRn, iv_rowIe, rv_rowRe, show ¬ q + 4 = q + 2 by omega, false_and, if_false]; exact hv1
  rw [b138_44]
  simp only [gI10, gR10, pI10, pR10, rv10, Option.bind_some, Option.bind_none, if_true, if_false, true_or, or_true, false_or, or_false, true_and, and_true, false_and, and_false, decide_eq_true_eq, decide_true, decide_false, eq_self, not_true_eq_false, not_false_eq_true, jfit0, N_lit, N_add, N_mul, NEG_eq, pl_none, pl_some, rf_some, rf_none, jun_ref, jun_null, ir_ref, ir_null, jr_rf, jun_rf, Option.toList_some, Option.toList_none, List.nil_append, List.cons_append, hq1.1.1, r3, esub, hq1.2.1, b1]
  simp only [N_inj (show (r.takeWhile isLt).length < 2147483648 by omega) (show 1 < 2147483648 by decide), N_lt (show c < 2147483648 by omega) (show 100 < 2147483648 by decide)]
  by_cases e1 : (r.takeWhile isLt).length = 1
  · by_cases e2 : c < 100
    · rw [if_pos e1, if_pos e2]
      simp only [show ((r.takeWhile isLt).length = 1 ∧ c < 100) = True from eq_true ⟨e1, e2⟩, if_true]
      have F2 : SCF q i μ (jsetI (jsetI μ1 (q + 2) i (N 97)) (q + 4) i (N (c - 97))) := scf_set (scf_set r2 (q + 2) (Or.inl rfl)) (q + 4) (Or.inr (Or.inr rfl))
      have hqm : TQ (jsetI μ1 (q + 2) i (N 97)) q := hq.fr (scf_set r2 (q + 2) (Or.inl rfl)).1
      have hbm : TB (jsetI μ1 (q + 2) i (N 97)) q bs := (scf_set r2 (q + 2) (Or.inl rfl)).tb hb
      have b1' := (byte_at hqm hbm hcb).1
      have s4 := ent_set (v := N (c - 97)) hqm.1.2.2.2.2.2.2.2.1 hqm.1.2.2.2.2.2.2.2.2 hi (by decide)
      have ec : N c - N 97 = N (c - 97) := N_sub hc97
      refine ⟨_, ?_, F2, ?_, ?_, ?_, ?_⟩
      · simp only [hq1.2.2.1, g2, gI10, gR10, pI10, pR10, rv10, Option.bind_some, Option.bind_none, if_true, if_false, true_or, or_true, false_or, or_false, true_and, and_true, false_and, and_false, decide_eq_true_eq, decide_true, decide_false, eq_self, not_true_eq_false, not_false_eq_true, jfit0, N_lit, N_add, N_mul, NEG_eq, pl_none, pl_some, rf_some, rf_none, jun_ref, jun_null, ir_ref, ir_null, jr_rf, jun_rf, Option.toList_some, Option.toList_none, List.nil_append, List.cons_append, hqm.1.1, hqm.2.2.2.2, hqm.2.1, b1', ec, s4, b138_158]
      · simp only [ty_setI, ty_setR, ty_rowI, ty_rowR, jk_setI, jk_setR, jk_rowI, jk_rowR, jl_setI, jl_setR, jl_rowI, jl_rowR, sz_setI, sz_setR, sz_rowI, sz_rowR, ext_setI, ext_setR, iv_setI, iv_setR, iv_rowI, iv_rowR, rv_setI, rv_setR, rv_rowI, rv_rowR, iv_setIn, iv_rowIn, rv_setRn, rv_rowRn, iv_rowIe, rv_rowRe, show ¬ q = q + 2 by omega, show ¬ q = q + 4 by omega, false_and, if_false, e1]; rw [r3, e1]
      · simp only [ty_setI, ty_setR, ty_rowI, ty_rowR, jk_setI, jk_setR, jk_rowI, jk_rowR, jl_setI, jl_setR, jl_rowI, jl_rowR, sz_setI, sz_setR, sz_rowI, sz_rowR, ext_setI, ext_setR, iv_setI, iv_setR, iv_rowI, iv_rowR, rv_setI, rv_setR, rv_rowI, rv_rowR, iv_setIn, iv_rowIn, rv_setRn, rv_rowRn, iv_rowIe, rv_rowRe, show ¬ q + 2 = q + 4 by omega, false_and, if_false, and_self, if_true]
      · simp only [ty_setI, ty_setR, ty_rowI, ty_rowR, jk_setI, jk_setR, jk_rowI, jk_rowR, jl_setI, jl_setR, jl_rowI, jl_rowR, sz_setI, sz_setR, sz_rowI, sz_rowR, ext_setI, ext_setR, iv_setI, iv_setR, iv_rowI, iv_rowR, rv_setI, rv_setR, rv_rowI, rv_rowR, iv_setIn, iv_rowIn, rv_setRn, rv_rowRn, iv_rowIe, rv_rowRe, show ¬ q + 3 = q + 2 by omega, show ¬ q + 3 = q + 4 by omega, false_and, if_false]; exact hs1
      · simp only [ty_setI, ty_setR, ty_rowI, ty_rowR, jk_setI, jk_setR, jk_rowI, jk_rowR, jl_setI, jl_setR, jl_rowI, jl_rowR, sz_setI, sz_setR, sz_rowI, sz_rowR, ext_setI, ext_setR, iv_setI, iv_setR, iv_rowI, iv_rowR, rv_setI, rv_setR, rv_rowI, rv_rowR, iv_setIn, iv_rowIn, rv_setRn, rv_rowRn, iv_rowIe, rv_rowRe, and_self, if_true]
    · rw [if_pos e1, if_neg e2]
      simp only [show ((r.takeWhile isLt).length = 1 ∧ c < 100) = False from eq_false (fun g => e2 g.2), if_false]
      exact word (fun g => e2 g.2)
  · rw [if_neg e1]
    simp only [show ((r.takeWhile isLt).length = 1 ∧ c < 100) = False from eq_false (fun g => e1 g.1), if_false]
    exact word (fun g => e1 g.1)
end LEX2
