/-! THE TAPE: all tokens; the small methods -/
section LEX3
variable {μ μ' μ'' : jM} {q d i p k n B f : Nat} {bs : List Nat} {c : Nat} {L : List T3} {v : Int32}
theorem drop_nbl (r : List Nat) : r = r.takeWhile isBl ++ r.drop (nbl r) := by
  have h := List.takeWhile_append_dropWhile (p := isBl) (l := r)
  have e : r.drop (nbl r) = r.dropWhile isBl := by
    unfold nbl
    conv => lhs; arg 2; rw [← h]
    rw [List.drop_left]
  rw [e, h]
theorem tok1_pos {c : Nat} {t : List Nat} : 1 ≤ (tok1 c t).2.2 ∧ (tok1 c t).2.2 ≤ (c :: t).length ∧ (tok1 c t).1 ≠ 0 := by
  have hl := fun f => (List.takeWhile_prefix (l := c :: t) f).length_le
  unfold tok1
  split
  · rename_i h
    refine ⟨?_, hl _, ?_⟩
    · show 1 ≤ ((c :: t).takeWhile isDg).length
      rw [List.takeWhile_cons, if_pos h, List.length_cons]; omega
    · show (if _ then 1 else 48) ≠ 0
      split <;> decide
  · split
    · rename_i h
      split
      · exact ⟨Nat.le_refl _, by simp, show (97 : Nat) ≠ 0 by decide⟩
      · refine ⟨?_, hl _, ?_⟩
        · show 1 ≤ ((c :: t).takeWhile isLt).length
          rw [List.takeWhile_cons, if_pos h, List.length_cons]; omega
        · show wkind _ ≠ 0
          unfold wkind
          repeat' split
          all_goals decide
    · refine ⟨Nat.le_refl _, by simp, ?_⟩
      show skind c ≠ 0
      unfold skind
      split
      · omega
      · decide
/-- one token scanned -/
theorem x_scanToken {r A : List Nat} (hk : KX μ B) (hj : JW μ) (hB : B ≤ q) (hi : i < 41) (hA : bs = A ++ r) (hq : TQ μ q) (hb : TB μ q bs) (hn : jiv μ q 2 = N A.length) : ∃ μ', jC (d + 6) 133 [.ref q, .int (N i)] μ = some (none, μ') ∧ SCF q i μ μ' ∧ jiv μ' (q + 3) i = N (A.length + nbl r) ∧ ((r.drop (nbl r) = [] ∧ jiv μ' (q + 2) i = N 0 ∧ jiv μ' (q + 4) i = N 0) ∨ ∃ c t, r.drop (nbl r) = c :: t ∧ jiv μ' (q + 2) i = N (tok1 c t).1 ∧ jiv μ' (q + 4) i = N (tok1 c t).2.1 ∧ jiv μ' q 2 = N (A.length + nbl r + (tok1 c t).2.2)) := by
  obtain ⟨μ1, r1, r2, r3, r4, r5, r6⟩ := scan_blank (d := d + 5) (i1 := .int (N i)) rfl hq hb r A μ hA hq hb hn
  have F1 : SCF q i μ μ1 := ⟨r2, r4, r5, r6 _ (by omega), fun a j ha _ => by rw [r6 a ha]⟩
  have hq1 := hq.fr r2
  have hb1 := F1.tb hb
  have hb40 := hb.2.1
  have h40 : A.length + r.length ≤ 40 := by
    have := hb.2.1
    rw [hA, List.length_append] at this; exact this
  have hnb : nbl r ≤ r.length := (List.takeWhile_prefix isBl).length_le
  have s3 := ent_set (v := N (A.length + nbl r)) hq1.1.2.2.2.2.2.1 hq1.1.2.2.2.2.2.2.1 hi (by decide)
  have F2 : SCF q i μ (jsetI μ1 (q + 3) i (N (A.length + nbl r))) := scf_set F1 (q + 3) (Or.inr (Or.inl rfl))
  have hq2 := hq.fr F2.1
  have s4 := ent_set (v := N 0) hq2.1.2.2.2.2.2.2.2.1 hq2.1.2.2.2.2.2.2.2.2 hi (by decide)
  have F3 : SCF q i μ (jsetI (jsetI μ1 (q + 3) i (N (A.length + nbl r))) (q + 4) i (N 0)) := scf_set F2 (q + 4) (Or.inr (Or.inr rfl))
  have hq3 := hq.fr F3.1
  have hb3 := F3.tb hb
  have n3 : jiv (jsetI (jsetI μ1 (q + 3) i (N (A.length + nbl r))) (q + 4) i (N 0)) q 2 = N (A.length + nbl r) := by
    simp only [ty_setI, ty_setR, ty_rowI, ty_rowR, jk_setI, jk_setR, jk_rowI, jk_rowR, jl_setI, jl_setR, jl_rowI, jl_rowR, sz_setI, sz_setR, sz_rowI, sz_rowR, ext_setI, ext_setR, iv_setI, iv_setR, iv_rowI, iv_rowR, rv_setI, rv_setR, rv_rowI, rv_rowR, iv_setIn, iv_rowIn, rv_setRn, rv_rowRn, iv_rowIe, rv_rowRe, show ¬ q = q + 4 by omega, show ¬ q = q + 3 by omega, false_and, if_false]; exact r3
  have st3 : jiv (jsetI (jsetI μ1 (q + 3) i (N (A.length + nbl r))) (q + 4) i (N 0)) (q + 3) i = N (A.length + nbl r) := by
    simp only [ty_setI, ty_setR, ty_rowI, ty_rowR, jk_setI, jk_setR, jk_rowI, jk_rowR, jl_setI, jl_setR, jl_rowI, jl_rowR, sz_setI, sz_setR, sz_rowI, sz_rowR, ext_setI, ext_setR, iv_setI, iv_setR, iv_rowI, iv_rowR, rv_setI, rv_setR, rv_rowI, rv_rowR, iv_setIn, iv_rowIn, rv_setRn, rv_rowRn, iv_rowIe, rv_rowRe, show ¬ q + 3 = q + 4 by omega, false_and, if_false, and_self, if_true]
  have fg3 : jiv (jsetI (jsetI μ1 (q + 3) i (N (A.length + nbl r))) (q + 4) i (N 0)) (q + 4) i = N 0 := by
    simp only [ty_setI, ty_setR, ty_rowI, ty_rowR, jk_setI, jk_setR, jk_rowI, jk_rowR, jl_setI, jl_setR, jl_rowI, jl_rowR, sz_setI, sz_setR, sz_rowI, sz_rowR, ext_setI, ext_setR, iv_setI, iv_setR, iv_rowI, iv_rowR, rv_setI, rv_setR, rv_rowI, rv_rowR, iv_setIn, iv_rowIn, rv_setRn, rv_rowRn, iv_rowIe, rv_rowRe, and_self, if_true]
  have hk3 := hk.fx hj F3.1 (fun b hb g => by omega) (fun _ _ _ g => g)
  have hj3 : JW (jsetI (jsetI μ1 (q + 3) i (N (A.length + nbl r))) (q + 4) i (N 0)) := (Fx.fa F3.1 hj).jw
  have pre : jC (d + 6) 133 [.ref q, .int (N i)] μ = jR (d + 6) 133 39 [.ref q, .int (N i)] [] μ1 := by
    rw [jC_run (by decide)]; exact r1
  have hA3 : bs = (A ++ r.takeWhile isBl) ++ r.drop (nbl r) := by rw [List.append_assoc, ← drop_nbl]; exact hA
  have lA : (A ++ r.takeWhile isBl).length = A.length + nbl r := by rw [List.length_append]; rfl
  have hbl : bs.length = A.length + nbl r + (r.drop (nbl r)).length := by
    have := congrArg List.length hA3
    rw [List.length_append, lA] at this
    exact this
  generalize hμ3 : jsetI (jsetI μ1 (q + 3) i (N (A.length + nbl r))) (q + 4) i (N 0) = μ3 at *
  have pre2 : ∀ x, (if N (A.length + nbl r) < N bs.length then (jgR μ3 10 0 (.ref q)).bind fun w8 => (jgI μ3 10 2 (.ref q)).bind fun x9 => (jaI μ3 w8 x9).bind fun x10 => (jC (d + 5) 135 [.int x10] μ3).bind fun p11 => jR (d + 6) 133 89 [.ref q, .int (N i)] (p11.1.toList ++ []) p11.2 else (jgR μ3 10 3 (.ref q)).bind fun w12 => (jsI μ3 w12 (N i) (N 0)).bind fun m13 => jR (d + 6) 133 151 [.ref q, .int (N i)] [] m13) = x → jC (d + 6) 133 [.ref q, .int (N i)] μ = x := by
    intro x hx
    rw [pre, b133_39, ← hx]
    have k2 : jk (jsetI μ1 (q + 3) i (N (A.length + nbl r))) q = 10 := hq2.1.1
    simp only [gI10, gR10, hq1.1.1, hq1.2.2.2.1, if_true, Option.bind_some, rf_some, r3, s3, N_lit, k2, hq2.2.2.2.2, s4, hμ3, hq3.1.1, n3, hb3.1]
  cases hd : r.drop (nbl r) with
  | nil =>
    rw [hd, List.length_nil, Nat.add_zero] at hbl
    refine ⟨jsetI μ3 (q + 2) i (N 0), ?_, scf_set F3 (q + 2) (Or.inl rfl), ?_, Or.inl ⟨rfl, ?_, ?_⟩⟩
    · refine pre2 _ ?_
      have s2 := ent_set (v := N 0) hq3.1.2.2.2.1 hq3.1.2.2.2.2.1 hi (by decide)
      rw [hbl, if_neg (by rw [N_lt (by omega) (by omega)]; omega)]
      simp only [gR10, hq3.1.1, if_true, hq3.2.2.1, rf_some, Option.bind_some, s2, b133_151]
    · simp only [ty_setI, ty_setR, ty_rowI, ty_rowR, jk_setI, jk_setR, jk_rowI, jk_rowR, jl_setI, jl_setR, jl_rowI, jl_rowR, sz_setI, sz_setR, sz_rowI, sz_rowR, ext_setI, ext_setR, iv_setI, iv_setR, iv_rowI, iv_rowR, rv_setI, rv_setR, rv_rowI, rv_rowR, iv_setIn, iv_rowIn, rv_setRn, rv_rowRn, iv_rowIe, rv_rowRe, show ¬ q + 3 = q + 2 by omega, false_and, if_false]; exact st3
    · simp only [ty_setI, ty_setR, ty_rowI, ty_rowR, jk_setI, jk_setR, jk_rowI, jk_rowR, jl_setI, jl_setR, jl_rowI, jl_rowR, sz_setI, sz_setR, sz_rowI, sz_rowR, ext_setI, ext_setR, iv_setI, iv_setR, iv_rowI, iv_rowR, rv_setI, rv_setR, rv_rowI, rv_rowR, iv_setIn, iv_rowIn, rv_setRn, rv_rowRn, iv_rowIe, rv_rowRe, and_self, if_true]
    · simp only [ty_setI, ty_setR, ty_rowI, ty_rowR, jk_setI, jk_setR, jk_rowI, jk_rowR, jl_setI, jl_setR, jl_rowI, jl_rowR, sz_setI, sz_setR, sz_rowI, sz_rowR, ext_setI, ext_setR, iv_setI, iv_setR, iv_rowI, iv_rowR, rv_setI, rv_setR, rv_rowI, rv_rowR, iv_setIn, iv_rowIn, rv_setRn, rv_rowRn, iv_rowIe, rv_rowRe, show ¬ q + 4 = q + 2 by omega, false_and, if_false]; exact fg3
  | cons c t =>
    rw [hd] at hbl hA3
    have hcb : bs[A.length + nbl r]? = some c := by rw [hA3, List.getElem?_append_right (by omega), lA, Nat.sub_self]; rfl
    obtain ⟨b1, b2, b3, b4⟩ := byte_at hq3 hb3 hcb
    have go : ∀ x, (if bN (isDg c) = N 0 then (jC (d + 5) 137 [.int (N c)] μ3).bind fun p4 => jR (d + 6) 133 112 [.ref q, .int (N i)] (p4.1.toList ++ []) p4.2 else (jC (d + 5) 136 [.ref q, .int (N i)] μ3).bind fun p5 => jR (d + 6) 133 97 [.ref q, .int (N i)] (p5.1.toList ++ []) p5.2) = x → jC (d + 6) 133 [.ref q, .int (N i)] μ = x := by
      intro x hx
      refine pre2 x ?_
      rw [if_pos (by rw [N_lt (by omega) (by omega)]; exact b3), ← hx]
      simp only [gR10, gI10, rv10, decide_true, hq3.1.1, if_true, hq3.2.1, rf_some, Option.bind_some, n3, b1, x_isDigit b2, Option.toList_some, List.cons_append, List.nil_append, b133_89, N_lit]
    cases edg : isDg c with
    | true =>
      obtain ⟨μ4, g1, g2, g3, g4, g5, g6⟩ := x_scanNumber (d := d + 4) (r := c :: t) (A := A ++ r.takeWhile isBl) hi hA3 hq3 hb3 (by rw [lA]; exact n3) fg3 (by rw [lA]; exact st3)
      have et : tok1 c t = (if 6 < ((c :: t).takeWhile isDg).length then 1 else 48, dval ((c :: t).takeWhile isDg), ((c :: t).takeWhile isDg).length) := by unfold tok1; rw [if_pos edg]
      refine ⟨μ4, go _ ?_, F3.trans g2, by rw [← lA]; exact g5, Or.inr ⟨c, t, rfl, ?_, ?_, ?_⟩⟩
      · rw [if_neg (by rw [bN_0, edg]; decide), g1]
        simp only [Option.bind_some, Option.toList_none, List.nil_append, b133_97, b133_151]
      · rw [et]; exact g4
      · rw [et]; exact g6
      · rw [et, ← lA]; exact g3
    | false =>
      have go2 : ∀ x, jR (d + 6) 133 112 [.ref q, .int (N i)] [.int (bN (isLt c))] μ3 = x → jC (d + 6) 133 [.ref q, .int (N i)] μ = x := fun x hx => by
        refine go x ?_
        rw [if_pos (by rw [bN_0]; exact edg), x_isLetter b2]
        exact hx
      cases elt : isLt c with
      | true =>
        obtain ⟨μ4, g1, g2, g3, g4, g5, g6⟩ := x_scanWord (d := d) (r := c :: t) (A := A ++ r.takeWhile isBl) hk3 hj3 hB hi hA3 (by rw [List.takeWhile_cons, if_pos elt, List.length_cons]; omega) hq3 hb3 (by rw [lA]; exact n3) fg3 (by rw [lA]; exact st3)
        have et : tok1 c t = if ((c :: t).takeWhile isLt).length = 1 ∧ c < 100 then (97, c - 97, 1) else (wkind ((c :: t).takeWhile isLt), 0, ((c :: t).takeWhile isLt).length) := by
          unfold tok1; rw [if_neg (by rw [edg]; decide), if_pos elt]
        refine ⟨μ4, go2 _ ?_, F3.trans g2, by rw [← lA]; exact g5, Or.inr ⟨c, t, rfl, ?_, ?_, ?_⟩⟩
        · rw [b133_112]
          simp only [N_lit, bN_0, elt, reduceCtorEq, if_false, rv10, hq3.1.1, decide_true, if_true, g1, Option.bind_some, Option.toList_none, List.nil_append, b133_120, b133_151]
        · by_cases h : ((c :: t).takeWhile isLt).length = 1 ∧ c < 100
          · have h' : ((c :: t).takeWhile isLt).length = 1 ∧ (c :: t).headD 0 < 100 := h
            rw [if_pos h'] at g4
            rw [et, if_pos h]; exact g4
          · have h' : ¬ (((c :: t).takeWhile isLt).length = 1 ∧ (c :: t).headD 0 < 100) := h
            rw [if_neg h'] at g4
            rw [et, if_neg h]; exact g4
        · by_cases h : ((c :: t).takeWhile isLt).length = 1 ∧ c < 100
          · have h' : ((c :: t).takeWhile isLt).length = 1 ∧ (c :: t).headD 0 < 100 := h
            rw [if_pos h'] at g6
            rw [et, if_pos h]; exact g6
          · have h' : ¬ (((c :: t).takeWhile isLt).length = 1 ∧ (c :: t).headD 0 < 100) := h
            rw [if_neg h'] at g6
            rw [et, if_neg h]; exact g6
        · rw [et, g3, lA]
          split
          · rename_i h; rw [h.1]
          · rfl
      | false =>
        have et : tok1 c t = (skind c, 0, 1) := by
          unfold tok1; rw [if_neg (by rw [edg]; decide), if_neg (by rw [elt]; decide)]
        have s2 := ent_set (v := N (skind c)) hq3.1.2.2.2.1 hq3.1.2.2.2.2.1 hi (by decide)
        have hq4 : TQ (jsetI μ3 (q + 2) i (N (skind c))) q := hq.fr (scf_set F3 (q + 2) (Or.inl rfl)).1
        have n4 : jiv (jsetI μ3 (q + 2) i (N (skind c))) q 2 = N (A.length + nbl r) := by simp only [ty_setI, ty_setR, ty_rowI, ty_rowR, jk_setI, jk_setR, jk_rowI, jk_rowR, jl_setI, jl_setR, jl_rowI, jl_rowR, sz_setI, sz_setR, sz_rowI, sz_rowR, ext_setI, ext_setR, iv_setI, iv_setR, iv_rowI, iv_rowR, rv_setI, rv_setR, rv_rowI, rv_rowR, iv_setIn, iv_rowIn, rv_setRn, rv_rowRn, iv_rowIe, rv_rowRe, show ¬ q = q + 2 by omega, false_and, if_false]; exact n3
        have F5 := scf_next (v := N (A.length + nbl r + 1)) (scf_set (v := N (skind c)) F3 (q + 2) (Or.inl rfl))
        refine ⟨_, go2 _ ?_, F5, ?_, Or.inr ⟨c, t, rfl, ?_, ?_, ?_⟩⟩
        · rw [b133_112]
          simp only [N_lit, bN_0, elt, if_true, gR10, gI10, hq3.1.1, hq3.2.2.1, hq3.2.1, rf_some, Option.bind_some, n3, b1, x_signOf b2, Option.toList_some, List.cons_append, List.nil_append]
          rw [b133_140 (hs0 := ir_ref), s2]
          simp only [Option.bind_some, gI10, pI10, jfit0, and_true, hq4.1.1, if_true, n4, N_lit, N_add, b133_151]
        · simp only [ty_setI, ty_setR, ty_rowI, ty_rowR, jk_setI, jk_setR, jk_rowI, jk_rowR, jl_setI, jl_setR, jl_rowI, jl_rowR, sz_setI, sz_setR, sz_rowI, sz_rowR, ext_setI, ext_setR, iv_setI, iv_setR, iv_rowI, iv_rowR, rv_setI, rv_setR, rv_rowI, rv_rowR, iv_setIn, iv_rowIn, rv_setRn, rv_rowRn, iv_rowIe, rv_rowRe, show ¬ q + 3 = q by omega, show ¬ q + 3 = q + 2 by omega, false_and, if_false]; exact st3
        · rw [et]; simp only [ty_setI, ty_setR, ty_rowI, ty_rowR, jk_setI, jk_setR, jk_rowI, jk_rowR, jl_setI, jl_setR, jl_rowI, jl_rowR, sz_setI, sz_setR, sz_rowI, sz_rowR, ext_setI, ext_setR, iv_setI, iv_setR, iv_rowI, iv_rowR, rv_setI, rv_setR, rv_rowI, rv_rowR, iv_setIn, iv_rowIn, rv_setRn, rv_rowRn, iv_rowIe, rv_rowRe, show ¬ q + 2 = q by omega, false_and, if_false, and_self, if_true]
        · rw [et]; simp only [ty_setI, ty_setR, ty_rowI, ty_rowR, jk_setI, jk_setR, jk_rowI, jk_rowR, jl_setI, jl_setR, jl_rowI, jl_rowR, sz_setI, sz_setR, sz_rowI, sz_rowR, ext_setI, ext_setR, iv_setI, iv_setR, iv_rowI, iv_rowR, rv_setI, rv_setR, rv_rowI, rv_rowR, iv_setIn, iv_rowIn, rv_setRn, rv_rowRn, iv_rowIe, rv_rowRe, show ¬ q + 4 = q by omega, show ¬ q + 4 = q + 2 by omega, false_and, if_false]; exact fg3
        · rw [et]; simp only [ty_setI, ty_setR, ty_rowI, ty_rowR, jk_setI, jk_setR, jk_rowI, jk_rowR, jl_setI, jl_setR, jl_rowI, jl_rowR, sz_setI, sz_setR, sz_rowI, sz_rowR, ext_setI, ext_setR, iv_setI, iv_setR, iv_rowI, iv_rowR, rv_setI, rv_setR, rv_rowI, rv_rowR, iv_setIn, iv_rowIn, rv_setRn, rv_rowRn, iv_rowIe, rv_rowRe, and_self, if_true]
theorem lexx_len : ∀ (n p : Nat) (r : List Nat), (lexx n p r).length ≤ n + 1
  | 0, _, _ => by simp [lexx]
  | n + 1, p, r => by
    rw [lexx]
    split
    · simp
    · exact Nat.succ_le_succ (lexx_len n _ _)
theorem x_findTokens (hk : KX μ B) (hj : JW μ) (hB : B ≤ q) (hq : TQ μ q) (hb : TB μ q bs) : ∃ μ', jC (d + 7) 132 [.ref q] μ = some (none, μ') ∧ TF q μ μ' ∧ TL μ' q (lexx 40 0 bs) ∧ jiv μ' q 6 = N 0 ∧ TB μ' q bs := by
  have loop : ∀ (n i : Nat) (r A : List Nat) (μ1 : jM), n + i = 40 → r.length ≤ n → bs = A ++ r → TF q μ μ1 → jiv μ1 q 1 = jiv μ q 1 → jiv μ1 q 6 = N 0 → jiv μ1 (q + 1) = jiv μ (q + 1) → jiv μ1 q 2 = N A.length → ∃ μ', jR (d + 7) 132 14 [.ref q, .int (N 1), .int (N i)] [] μ1 = some (none, μ') ∧ TF q μ μ' ∧ jiv μ' q 1 = jiv μ q 1 ∧ jiv μ' q 6 = N 0 ∧ jiv μ' (q + 1) = jiv μ (q + 1) ∧ (∀ a j, a ≠ q → j < i → jiv μ' a j = jiv μ1 a j) ∧ ∀ j x, (lexx n A.length r)[j]? = some x → jiv μ' (q + 2) (i + j) = N x.1 ∧ jiv μ' (q + 3) (i + j) = N x.2.1 ∧ jiv μ' (q + 4) (i + j) = N x.2.2 := by
    intro n
    induction n with
    | zero =>
      intro i r A μ1 hi hr hA F e1 e6 eb e2
      have hr0 : r = [] := List.length_eq_zero_iff.mp (by omega)
      subst hr0
      have hq1 := hq.fr F
      obtain ⟨μ2, s1, s2, s3, s4⟩ := x_scanToken (d := d) (i := i) (hk.fx hj F (fun b hb g => by omega) (fun _ _ _ g => g)) (Fx.fa F hj).jw hB (by omega) hA hq1 (hb.fr e1 eb) e2
      have s4 : jiv μ2 (q + 2) i = N 0 ∧ jiv μ2 (q + 4) i = N 0 := by
        rcases s4 with ⟨-, a, b⟩ | ⟨c, t, a, -⟩
        · exact ⟨a, b⟩
        · cases a
      have hq2 := hq1.fr s2.1
      have g2 := ent_get hq2.1.2.2.2.1 hq2.1.2.2.2.2.1 (show i < 41 by omega) (by decide)
      refine ⟨μ2, ?_, F.trans s2.1, s2.2.1.trans e1, s2.2.2.1.trans e6, s2.2.2.2.1.trans eb, fun a j ha hj => s2.2.2.2.2 a j ha (by omega), fun j x hx => ?_⟩
      · rw [b132_14]
        simp only [gR10, rv10, decide_true, hq1.1.1, if_true, hq1.2.2.1, rf_some, Option.bind_some, alen_of hq1.1.2.2.2.1 (by decide), hq1.1.2.2.2.2.1, N_lt (show i < 2147483648 by omega) (show 41 < 2147483648 by decide), show i < 41 by omega, N_lit, n10, if_false, s1, Option.toList_none, List.nil_append]
        rw [b132_32]
        simp only [gR10, hq2.1.1, if_true, hq2.2.2.1, rf_some, Option.bind_some, g2, s4.1, N_lit, b132_46, N_add]
        rw [b132_14]
        simp only [gR10, hq2.1.1, if_true, hq2.2.2.1, rf_some, Option.bind_some, alen_of hq2.1.2.2.2.1 (by decide), hq2.1.2.2.2.2.1, N_lit, ite_self, b132_53]
      · simp only [lexx] at hx
        have hj0 : j = 0 := by
          have := (List.getElem?_eq_some_iff.mp hx).1
          simp only [List.length_cons, List.length_nil] at this; omega
        subst hj0
        have hx : some ((0, A.length, 0) : T3) = some x := hx
        cases hx
        have s3 : jiv μ2 (q + 3) i = N A.length := s3
        exact ⟨s4.1, s3, s4.2⟩
    | succ n ih =>
      intro i r A μ1 hi hr hA F e1 e6 eb e2
      have hq1 := hq.fr F
      obtain ⟨μ2, s1, s2, s3, s4⟩ := x_scanToken (d := d) (i := i) (hk.fx hj F (fun b hb g => by omega) (fun _ _ _ g => g)) (Fx.fa F hj).jw hB (by omega) hA hq1 (hb.fr e1 eb) e2
      have hq2 := hq1.fr s2.1
      have g2 := ent_get hq2.1.2.2.2.1 hq2.1.2.2.2.2.1 (show i < 41 by omega) (by decide)
      have hd1 : jR (d + 7) 132 14 [.ref q, .int (N 1), .int (N i)] [] μ1 = jR (d + 7) 132 32 [.ref q, .int (N 1), .int (N i)] [] μ2 := by
        rw [b132_14]
        simp only [gR10, rv10, decide_true, hq1.1.1, if_true, hq1.2.2.1, rf_some, Option.bind_some, alen_of hq1.1.2.2.2.1 (by decide), hq1.1.2.2.2.2.1, N_lt (show i < 2147483648 by omega) (show 41 < 2147483648 by decide), show i < 41 by omega, N_lit, n10, if_false, s1, Option.toList_none, List.nil_append]
      rcases s4 with ⟨hd, a2, a4⟩ | ⟨c, t, hd, a2, a4, a5⟩
      · refine ⟨μ2, ?_, F.trans s2.1, s2.2.1.trans e1, s2.2.2.1.trans e6, s2.2.2.2.1.trans eb, fun a j ha hj => s2.2.2.2.2 a j ha (by omega), fun j x hx => ?_⟩
        · rw [hd1, b132_32]
          simp only [gR10, hq2.1.1, if_true, hq2.2.2.1, rf_some, Option.bind_some, g2, a2, N_lit, b132_46, N_add]
          rw [b132_14]
          simp only [gR10, hq2.1.1, if_true, hq2.2.2.1, rf_some, Option.bind_some, alen_of hq2.1.2.2.2.1 (by decide), hq2.1.2.2.2.2.1, N_lit, ite_self, b132_53]
        · simp only [lexx, hd] at hx
          have hj0 : j = 0 := by
            have := (List.getElem?_eq_some_iff.mp hx).1
            simp only [List.length_cons, List.length_nil] at this; omega
          subst hj0
          have hx : some ((0, A.length + nbl r, 0) : T3) = some x := hx
          cases hx
          exact ⟨a2, s3, a4⟩
      · obtain ⟨p1, p2, p3⟩ := tok1_pos (c := c) (t := t)
        have hrl : r.length = nbl r + (c :: t).length := by
          have h1 := congrArg List.length (drop_nbl r)
          rw [hd, List.length_append] at h1
          exact h1
        have hA2 : bs = (A ++ r.takeWhile isBl ++ (c :: t).take (tok1 c t).2.2) ++ (c :: t).drop (tok1 c t).2.2 := by
          rw [List.append_assoc, List.take_append_drop, ← hd, List.append_assoc, ← drop_nbl]; exact hA
        have lA2 : (A ++ r.takeWhile isBl ++ (c :: t).take (tok1 c t).2.2).length = A.length + nbl r + (tok1 c t).2.2 := by
          rw [List.length_append, List.length_append, List.length_take, Nat.min_eq_left p2]; rfl
        obtain ⟨μ', q1, q2, q3, q4, q5, q6, q7⟩ := ih (i + 1) _ (A ++ r.takeWhile isBl ++ (c :: t).take (tok1 c t).2.2) μ2 (by omega) (by rw [List.length_drop]; omega) hA2 (F.trans s2.1) (s2.2.1.trans e1) (s2.2.2.1.trans e6) (s2.2.2.2.1.trans eb) (by rw [lA2]; exact a5)
        refine ⟨μ', ?_, q2, q3, q4, q5, fun a j ha hj => (q6 a j ha (by omega)).trans (s2.2.2.2.2 a j ha (by omega)), fun j x hx => ?_⟩
        · have b40 := hb.2.1
          have k40 : (tok1 c t).1 < 1000 := by
            unfold tok1
            split
            · show (if _ then 1 else 48) < 1000
              split <;> decide
            · split
              · split
                · show (97 : Nat) < 1000; decide
                · show wkind _ < 1000
                  unfold wkind
                  repeat' split
                  all_goals decide
              · show skind c < 1000
                unfold skind
                split
                · omega
                · decide
          have ne : (N (tok1 c t).1 = N 0) = False := N_ne (by omega) (by decide) p3
          rw [hd1, b132_32]
          simp only [gR10, hq2.1.1, if_true, hq2.2.2.1, rf_some, Option.bind_some, g2, a2, N_lit, ne, if_false, b132_46, N_add]
          exact q1
        · simp only [lexx, hd] at hx
          rw [lA2] at q7
          cases j with
          | zero =>
            have hx : some ((tok1 c t).1, A.length + nbl r, (tok1 c t).2.1) = some x := hx
            cases hx
            show jiv μ' (q + 2) i = _ ∧ jiv μ' (q + 3) i = _ ∧ jiv μ' (q + 4) i = _
            rw [q6 (q + 2) i (by omega) (by omega), q6 (q + 3) i (by omega) (by omega), q6 (q + 4) i (by omega) (by omega)]
            exact ⟨a2, s3, a4⟩
          | succ j =>
            have := q7 j x hx
            rw [show i + 1 + j = i + (j + 1) by omega] at this
            exact this
  have F0 : TF q μ (jsetI (jsetI μ q 6 (N 0)) q 2 (N 0)) := TF.setI (TF.setI TF.refl (by omega)) (by omega)
  obtain ⟨μ', q1, q2, q3, q4, q5, q6, q7⟩ := loop 40 0 bs [] _ rfl hb.2.1 rfl F0 (by simp only [ty_setI, ty_setR, ty_rowI, ty_rowR, jk_setI, jk_setR, jk_rowI, jk_rowR, jl_setI, jl_setR, jl_rowI, jl_rowR, sz_setI, sz_setR, sz_rowI, sz_rowR, ext_setI, ext_setR, iv_setI, iv_setR, iv_rowI, iv_rowR, rv_setI, rv_setR, rv_rowI, rv_rowR, iv_setIn, iv_rowIn, rv_setRn, rv_rowRn, iv_rowIe, rv_rowRe, show ¬ (1 : Nat) = 2 by decide, show ¬ (1 : Nat) = 6 by decide, and_false, if_false]) (by simp only [ty_setI, ty_setR, ty_rowI, ty_rowR, jk_setI, jk_setR, jk_rowI, jk_rowR, jl_setI, jl_setR, jl_rowI, jl_rowR, sz_setI, sz_setR, sz_rowI, sz_rowR, ext_setI, ext_setR, iv_setI, iv_setR, iv_rowI, iv_rowR, rv_setI, rv_setR, rv_rowI, rv_rowR, iv_setIn, iv_rowIn, rv_setRn, rv_rowRn, iv_rowIe, rv_rowRe, show ¬ (6 : Nat) = 2 by decide, and_false, if_false, and_self, if_true]) (by simp only [ty_setI, ty_setR, ty_rowI, ty_rowR, jk_setI, jk_setR, jk_rowI, jk_rowR, jl_setI, jl_setR, jl_rowI, jl_rowR, sz_setI, sz_setR, sz_rowI, sz_rowR, ext_setI, ext_setR, iv_setI, iv_setR, iv_rowI, iv_rowR, rv_setI, rv_setR, rv_rowI, rv_rowR, iv_setIn, iv_rowIn, rv_setRn, rv_rowRn, iv_rowIe, rv_rowRe, show ¬ q + 1 = q by omega, not_false_eq_true]) (by simp only [ty_setI, ty_setR, ty_rowI, ty_rowR, jk_setI, jk_setR, jk_rowI, jk_rowR, jl_setI, jl_setR, jl_rowI, jl_rowR, sz_setI, sz_setR, sz_rowI, sz_rowR, ext_setI, ext_setR, iv_setI, iv_setR, iv_rowI, iv_rowR, rv_setI, rv_setR, rv_rowI, rv_rowR, iv_setIn, iv_rowIn, rv_setRn, rv_rowRn, iv_rowIe, rv_rowRe, and_self, if_true, List.length_nil])
  refine ⟨μ', ?_, q2, fun j x hx => ?_, q4, hb.fr q3 q5⟩
  · rw [jC_run (by decide)]
    show jR (d + 7) 132 0 [.ref q, .retAddr 0, .retAddr 0] [] μ = _
    rw [← q1]
    simp only [b132_0, gI10, gR10, pI10, pR10, rv10, aI_eq, aB_eq, aR_eq, sI_eq, sB_eq, sR_eq, Option.bind_some, Option.bind_none, if_true, if_false, true_or, or_true, false_or, or_false, true_and, and_true, false_and, and_false, decide_eq_true_eq, decide_true, decide_false, eq_self, not_true_eq_false, not_false_eq_true, jfit0, N_lit, N_add, N_mul, NEG_eq, pl_none, pl_some, rf_some, rf_none, jun_ref, jun_null, ir_ref, ir_null, jr_rf, jun_rf, Option.toList_some, Option.toList_none, List.nil_append, List.cons_append, ty_setI, ty_setR, ty_rowI, ty_rowR, jk_setI, jk_setR, jk_rowI, jk_rowR, jl_setI, jl_setR, jl_rowI, jl_rowR, sz_setI, sz_setR, sz_rowI, sz_rowR, ext_setI, ext_setR, iv_setI, iv_setR, iv_rowI, iv_rowR, rv_setI, rv_setR, rv_rowI, rv_rowR, iv_setIn, iv_rowIn, rv_setRn, rv_rowRn, iv_rowIe, rv_rowRe, hq.1.1]
  · have := q7 j x hx
    rw [Nat.zero_add] at this
    exact this
end LEX3
