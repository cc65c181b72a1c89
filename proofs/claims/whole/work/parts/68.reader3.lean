/-! THE READER: parts and sums, and a text whole -/
section REC2
variable {μ μ' μ'' μ1 : jM} {q D g d p p' k w c s n : Nat} {G : DG} {L ts : List T3} {T T' : List Tk} {O O' : List Nat} {ok : Bool} {e : Ex}
theorem rd_mul (hL : GTS L) (h41 : L.length ≤ 41) (hK : KK G) (i0 : RdM q D g G L n 0) (i3 : RdL q D g G L n 3) : RdL q D g G L (n + 1) 3 := by
  intro dd k w p i T O e u3 μ hd hn hkw hp h hT hl hO hlv hns hi
  obtain ⟨d, rfl⟩ : ∃ d, dd = d + 5 := ⟨dd - 5, by omega⟩
  have hky := kyG_lt hK
  show ∃ μ', jR (d + 5) 149 12 [.ref (q + 5), .int (N w), .int (N i), u3] [] μ = _ ∧ _
  rw [pP]
  have stay : PE μ μ q D g G L true (L.drop p) (T ++ tks e) (O ++ ords T.length e) := ⟨PF.refl, p, hp, rfl, h, fun _ => ⟨hT, hl⟩⟩
  rw [b149_12]
  by_cases hi40 : i < 40
  · simp only [N_lit, N_lt (show i < 2147483648 by omega) (show 40 < 2147483648 by decide), hi40, gI11, gR11, pI11, pR11, rv11, gI10, gR10, pI10, pR10, rv10, aI_eq, aB_eq, aR_eq, sI_eq, sB_eq, sR_eq, Option.bind_some, Option.bind_none, if_true, if_false, true_or, or_true, false_or, or_false, true_and, and_true, false_and, and_false, decide_eq_true_eq, decide_true, decide_false, eq_self, not_true_eq_false, not_false_eq_true, jfit0, N_lit, N_add, N_mul, NEG_eq, pl_none, pl_some, rf_some, rf_none, jun_ref, jun_null, ir_ref, ir_null, jr_rf, jun_rf, Option.toList_some, Option.toList_none, List.nil_append, List.cons_append, h.k0, h.r0, x_token h hp h41]
    rw [b149_25]
    simp only [N_lit, hkN hL hp (show 42 < 256 by decide), h.r0]
    by_cases c42 : hk (L.drop p) = 42
    · have hm := more hL hp (by omega)
      rw [if_pos c42, if_pos c42]
      have hol := ords_len e 1 T.length hlv
      rw [List.length_append] at hl
      obtain ⟨μ1, a1, F1, z1, t1⟩ := x_keep (d := d + 3) (x := N 42) (y := N 0) (z := N 0) h hT (by omega) (by rw [List.length_append]; omega)
      obtain ⟨μ2, b1, P2⟩ := i0 (d + 4) k w (p + 1) _ _ e μ1 (by omega) (by omega) hkw hm z1 t1 (by simp; omega) (by simp; omega)
      have hpo := pP_ok hky n 0 w e (L.drop (p + 1)) (hL.drop hm) (by omega) (fun g => by omega)
      rw [drop_tl] at b1 P2 hpo
      generalize pP (kyG G) n 0 w e (L.drop p).tail = R at *
      have b1 : jC (d + 4) 150 [.ref (q + 5), .int (N w)] μ1 = some (some (.int (bN R.1)), μ2) := b1
      simp only [gI11, gR11, pI11, pR11, rv11, aI_eq, aB_eq, aR_eq, sI_eq, sB_eq, sR_eq, Option.bind_some, Option.bind_none, if_true, if_false, true_or, or_true, false_or, or_false, true_and, and_true, false_and, and_false, decide_eq_true_eq, decide_true, decide_false, eq_self, not_true_eq_false, not_false_eq_true, jfit0, N_lit, N_add, N_mul, NEG_eq, pl_none, pl_some, rf_some, rf_none, jun_ref, jun_null, ir_ref, ir_null, jr_rf, jun_rf, Option.toList_some, Option.toList_none, List.nil_append, List.cons_append, h.r0, a1, b149_38, z1.r0, b1, b149_44, bN_0]
      cases eR : R.1 with
      | false =>
        rw [eR] at P2
        simp only [if_true, Bool.false_eq_true, if_false]
        exact ⟨μ2, rfl, pe_pre F1 (pe_any P2)⟩
      | true =>
        rw [eR] at P2
        obtain ⟨F2, p2, l2, d2, z2, t2⟩ := P2
        obtain ⟨t2, s2⟩ := t2 rfl
        obtain ⟨q1, q2, q3⟩ := hpo
        obtain ⟨o1, o2, o3, o4⟩ := q3 eR
        have hol2 := ords_len R.2.2 0 (T ++ tks e ++ [(N 42, N 0, N 0)]).length o1
        have hsz : p + 1 ≤ p2 := by
          have := q2.length_le
          rw [← d2, List.length_tail, List.length_drop, List.length_drop] at this
          omega
        simp only [List.length_append, List.length_singleton] at s2 hol2
        obtain ⟨μ3, c1, F3, z3, t3⟩ := x_wo (d := d + 4) (o := (T ++ tks e).length) z2 t2 (by simp only [List.length_append, List.length_singleton]; omega)
        have e1 : T ++ tks (.mul e R.2.2) = T ++ tks e ++ [(N 42, N 0, N 0)] ++ tks R.2.2 := by simp [tks]
        have e2 : O ++ ords T.length (.mul e R.2.2) = O ++ ords T.length e ++ ords (T ++ tks e ++ [(N 42, N 0, N 0)]).length R.2.2 ++ [(T ++ tks e).length] := by
          simp only [ords, List.append_assoc, List.length_append, List.length_singleton, Nat.add_assoc]
        obtain ⟨μ4, v1, P4⟩ := i3 (d + 5) k w p2 (i + 1) T O (.mul e R.2.2) (.int (N (T ++ tks e).length)) μ3 (by omega) (by omega) hkw l2 z3 (by rw [e1, e2]; exact t3) (by rw [e1]; simp; omega) hO ⟨Nat.le_refl _, hlv, o1⟩ (by show max (nst e) (nst R.2.2) + w ≤ 4; omega) (by omega)
        rw [d2] at v1 P4
        refine ⟨μ4, ?_, pe_pre (F1.trans (F2.trans F3)) P4⟩
        simp only [Bool.true_eq_false, if_false, gI11, gR11, pI11, pR11, rv11, aI_eq, aB_eq, aR_eq, sI_eq, sB_eq, sR_eq, Option.bind_some, Option.bind_none, if_true, if_false, true_or, or_true, false_or, or_false, true_and, and_true, false_and, and_false, decide_eq_true_eq, decide_true, decide_false, eq_self, not_true_eq_false, not_false_eq_true, jfit0, N_lit, N_add, N_mul, NEG_eq, pl_none, pl_some, rf_some, rf_none, jun_ref, jun_null, ir_ref, ir_null, jr_rf, jun_rf, Option.toList_some, Option.toList_none, List.nil_append, List.cons_append, z2.r0, c1, b149_54, N_add]
        exact v1
    · rw [if_neg c42, if_neg c42]
      simp only [b149_60]
      exact ⟨μ, rfl, stay⟩
  · have hend := last_end hL hp (by omega)
    simp only [N_lit, N_lt (show i < 2147483648 by omega) (show 40 < 2147483648 by decide), hi40, if_false, b149_60]
    rw [if_neg (by omega)]
    exact ⟨μ, rfl, stay⟩
theorem rd_part (hL : GTS L) (h41 : L.length ≤ 41) (hK : KK G) (i0 : RdM q D g G L n 0) (i3 : RdL q D g G L n 3) : RdM q D g G L (n + 1) 1 := by
  intro dd k w p T O e μ hd hn hkw hp h hT hl hO
  obtain ⟨d, rfl⟩ : ∃ d, dd = d + 5 := ⟨dd - 5, by omega⟩
  have hky := kyG_lt hK
  show ∃ μ', jC (d + 5) 149 [.ref (q + 5), .int (N w)] μ = _ ∧ _
  rw [pP, jC_run (by decide)]
  show ∃ μ', jR (d + 5) 149 0 [.ref (q + 5), .int (N w), .retAddr 0, .retAddr 0] [] μ = _ ∧ _
  obtain ⟨μ2, b1, P2⟩ := i0 (d + 4) k w p T O e μ (by omega) (by omega) hkw hp h hT hl hO
  have hpo := pP_ok hky n 0 w e (L.drop p) (hL.drop hp) (by omega) (fun g => by omega)
  generalize pP (kyG G) n 0 w e (L.drop p) = R at *
  have b1 : jC (d + 4) 150 [.ref (q + 5), .int (N w)] μ = some (some (.int (bN R.1)), μ2) := b1
  simp only [b149_0, gI11, gR11, pI11, pR11, rv11, aI_eq, aB_eq, aR_eq, sI_eq, sB_eq, sR_eq, Option.bind_some, Option.bind_none, if_true, if_false, true_or, or_true, false_or, or_false, true_and, and_true, false_and, and_false, decide_eq_true_eq, decide_true, decide_false, eq_self, not_true_eq_false, not_false_eq_true, jfit0, N_lit, N_add, N_mul, NEG_eq, pl_none, pl_some, rf_some, rf_none, jun_ref, jun_null, ir_ref, ir_null, jr_rf, jun_rf, Option.toList_some, Option.toList_none, List.nil_append, List.cons_append, h.r0, b1, b149_5, bN_0]
  cases eR : R.1 with
  | false =>
    rw [eR] at P2
    simp only [if_true, Bool.false_eq_true, if_false]
    exact ⟨μ2, rfl, pe_any P2⟩
  | true =>
    rw [eR] at P2
    obtain ⟨F2, p2, l2, d2, z2, t2⟩ := P2
    obtain ⟨t2, s2⟩ := t2 rfl
    obtain ⟨q1, q2, q3⟩ := hpo
    obtain ⟨o1, o2, o3, o4⟩ := q3 eR
    have hsz : p ≤ p2 := by
      have := q2.length_le
      rw [← d2, List.length_drop, List.length_drop] at this
      omega
    obtain ⟨μ4, v1, P4⟩ := i3 (d + 5) k w p2 0 T O R.2.2 (.retAddr 0) μ2 (by omega) (by omega) hkw l2 z2 t2 s2 hO (lv_mono (by decide) o1) o2 (by omega)
    rw [d2] at v1 P4
    refine ⟨μ4, ?_, pe_pre F2 P4⟩
    simp only [Bool.true_eq_false, if_false, N_lit]
    exact v1
theorem rd_add (hL : GTS L) (h41 : L.length ≤ 41) (hK : KK G) (i1 : RdM q D g G L n 1) (i4 : RdL q D g G L n 4) : RdL q D g G L (n + 1) 4 := by
  intro dd k w p i T O e u3 μ hd hn hkw hp h hT hl hO hlv hns hi
  obtain ⟨d, rfl⟩ : ∃ d, dd = d + 6 := ⟨dd - 6, by omega⟩
  have hky := kyG_lt hK
  show ∃ μ', jR (d + 6) 148 12 [.ref (q + 5), .int (N w), .int (N i), u3] [] μ = _ ∧ _
  have stay : PE μ μ q D g G L true (L.drop p) (T ++ tks e) (O ++ ords T.length e) := ⟨PF.refl, p, hp, rfl, h, fun _ => ⟨hT, hl⟩⟩
  have hol := ords_len e 2 T.length hlv
  -- behind a sign
  have go : ∀ (c : Nat) (E : Ex → Ex), hk (L.drop p) = c → (c = 43 ∨ c = 45) → i < 40 → (∀ r, tks (E r) = tks e ++ (N c, N 0, N 0) :: tks r) → (∀ b r, ords b (E r) = ords b e ++ (ords (b + (tks e).length + 1) r ++ [b + (tks e).length])) → (∀ r, lv 1 r → lv 2 (E r)) → (∀ r, nst (E r) = max (nst e) (nst r)) → ∃ μ', jR (d + 6) 148 42 [.ref (q + 5), .int (N w), .int (N i), u3] [] μ = some (some (.int (bN (if (pP (kyG G) n 1 w e (L.drop p).tail).1 = true then pP (kyG G) n 4 w (E (pP (kyG G) n 1 w e (L.drop p).tail).2.2) (pP (kyG G) n 1 w e (L.drop p).tail).2.1 else (false, (pP (kyG G) n 1 w e (L.drop p).tail).2.1, e)).1)), μ') ∧ PE μ μ' q D g G L (if (pP (kyG G) n 1 w e (L.drop p).tail).1 = true then pP (kyG G) n 4 w (E (pP (kyG G) n 1 w e (L.drop p).tail).2.2) (pP (kyG G) n 1 w e (L.drop p).tail).2.1 else (false, (pP (kyG G) n 1 w e (L.drop p).tail).2.1, e)).1 (if (pP (kyG G) n 1 w e (L.drop p).tail).1 = true then pP (kyG G) n 4 w (E (pP (kyG G) n 1 w e (L.drop p).tail).2.2) (pP (kyG G) n 1 w e (L.drop p).tail).2.1 else (false, (pP (kyG G) n 1 w e (L.drop p).tail).2.1, e)).2.1 (T ++ tks (if (pP (kyG G) n 1 w e (L.drop p).tail).1 = true then pP (kyG G) n 4 w (E (pP (kyG G) n 1 w e (L.drop p).tail).2.2) (pP (kyG G) n 1 w e (L.drop p).tail).2.1 else (false, (pP (kyG G) n 1 w e (L.drop p).tail).2.1, e)).2.2) (O ++ ords T.length (if (pP (kyG G) n 1 w e (L.drop p).tail).1 = true then pP (kyG G) n 4 w (E (pP (kyG G) n 1 w e (L.drop p).tail).2.2) (pP (kyG G) n 1 w e (L.drop p).tail).2.1 else (false, (pP (kyG G) n 1 w e (L.drop p).tail).2.1, e)).2.2) := by
    intro c E hc hcc hi40 ht ho hlE hnE
    have hm := more hL hp (by omega)
    rw [List.length_append] at hl
    obtain ⟨μ1, a1, F1, z1, t1⟩ := x_keep (d := d + 4) (x := N c) (y := N 0) (z := N 0) h hT (by omega) (by rw [List.length_append]; omega)
    obtain ⟨μ2, b1, P2⟩ := i1 (d + 5) k w (p + 1) _ _ e μ1 (by omega) (by omega) hkw hm z1 t1 (by simp; omega) (by simp; omega)
    have hpo := pP_ok hky n 1 w e (L.drop (p + 1)) (hL.drop hm) (by omega) (fun g => by omega)
    rw [drop_tl] at b1 P2 hpo
    generalize pP (kyG G) n 1 w e (L.drop p).tail = R at *
    have b1 : jC (d + 5) 149 [.ref (q + 5), .int (N w)] μ1 = some (some (.int (bN R.1)), μ2) := b1
    simp only [b148_42, gI11, gR11, pI11, pR11, rv11, gI10, gR10, pI10, pR10, rv10, aI_eq, aB_eq, aR_eq, sI_eq, sB_eq, sR_eq, Option.bind_some, Option.bind_none, if_true, if_false, true_or, or_true, false_or, or_false, true_and, and_true, false_and, and_false, decide_eq_true_eq, decide_true, decide_false, eq_self, not_true_eq_false, not_false_eq_true, jfit0, N_lit, N_add, N_mul, NEG_eq, pl_none, pl_some, rf_some, rf_none, jun_ref, jun_null, ir_ref, ir_null, jr_rf, jun_rf, Option.toList_some, Option.toList_none, List.nil_append, List.cons_append, h.k0, h.r0, x_token h hp h41, hc, b148_50, a1, b148_55, z1.r0, b1, b148_61, bN_0]
    cases eR : R.1 with
    | false =>
      rw [eR] at P2
      simp only [if_true, Bool.false_eq_true, if_false]
      exact ⟨μ2, rfl, pe_pre F1 (pe_any P2)⟩
    | true =>
      rw [eR] at P2
      obtain ⟨F2, p2, l2, d2, z2, t2⟩ := P2
      obtain ⟨t2, s2⟩ := t2 rfl
      obtain ⟨q1, q2, q3⟩ := hpo
      obtain ⟨o1, o2, o3, o4⟩ := q3 eR
      have hol2 := ords_len R.2.2 1 (T ++ tks e ++ [(N c, N 0, N 0)]).length o1
      have hsz : p + 1 ≤ p2 := by
        have := q2.length_le
        rw [← d2, List.length_tail, List.length_drop, List.length_drop] at this
        omega
      simp only [List.length_append, List.length_singleton] at s2 hol2
      obtain ⟨μ3, c1, F3, z3, t3⟩ := x_wo (d := d + 5) (o := (T ++ tks e).length) z2 t2 (by simp only [List.length_append, List.length_singleton]; omega)
      have e1 : T ++ tks (E R.2.2) = T ++ tks e ++ [(N c, N 0, N 0)] ++ tks R.2.2 := by rw [ht]; simp
      have e2 : O ++ ords T.length (E R.2.2) = O ++ ords T.length e ++ ords (T ++ tks e ++ [(N c, N 0, N 0)]).length R.2.2 ++ [(T ++ tks e).length] := by
        rw [ho]
        simp only [List.append_assoc, List.length_append, List.length_singleton, Nat.add_assoc]
      obtain ⟨μ4, v1, P4⟩ := i4 (d + 6) k w p2 (i + 1) T O (E R.2.2) (.int (N (T ++ tks e).length)) μ3 (by omega) (by omega) hkw l2 z3 (by rw [e1, e2]; exact t3) (by rw [e1]; simp; omega) hO (hlE _ o1) (by rw [hnE]; omega) (by omega)
      rw [d2] at v1 P4
      refine ⟨μ4, ?_, pe_pre (F1.trans (F2.trans F3)) P4⟩
      simp only [Bool.true_eq_false, if_false, gI11, gR11, pI11, pR11, rv11, aI_eq, aB_eq, aR_eq, sI_eq, sB_eq, sR_eq, Option.bind_some, Option.bind_none, if_true, if_false, true_or, or_true, false_or, or_false, true_and, and_true, false_and, and_false, decide_eq_true_eq, decide_true, decide_false, eq_self, not_true_eq_false, not_false_eq_true, jfit0, N_lit, N_add, N_mul, NEG_eq, pl_none, pl_some, rf_some, rf_none, jun_ref, jun_null, ir_ref, ir_null, jr_rf, jun_rf, Option.toList_some, Option.toList_none, List.nil_append, List.cons_append, z2.r0, c1, b148_71, N_add]
      exact v1
  rw [pP, b148_12]
  by_cases hi40 : i < 40
  · simp only [N_lit, N_lt (show i < 2147483648 by omega) (show 40 < 2147483648 by decide), hi40, gI11, gR11, pI11, pR11, rv11, gI10, gR10, pI10, pR10, rv10, aI_eq, aB_eq, aR_eq, sI_eq, sB_eq, sR_eq, Option.bind_some, Option.bind_none, if_true, if_false, true_or, or_true, false_or, or_false, true_and, and_true, false_and, and_false, decide_eq_true_eq, decide_true, decide_false, eq_self, not_true_eq_false, not_false_eq_true, jfit0, N_lit, N_add, N_mul, NEG_eq, pl_none, pl_some, rf_some, rf_none, jun_ref, jun_null, ir_ref, ir_null, jr_rf, jun_rf, Option.toList_some, Option.toList_none, List.nil_append, List.cons_append, h.k0, h.r0, x_token h hp h41]
    rw [b148_25]
    simp only [N_lit, hkN hL hp (show 43 < 256 by decide), gI11, gR11, pI11, pR11, rv11, gI10, gR10, pI10, pR10, rv10, aI_eq, aB_eq, aR_eq, sI_eq, sB_eq, sR_eq, Option.bind_some, Option.bind_none, if_true, if_false, true_or, or_true, false_or, or_false, true_and, and_true, false_and, and_false, decide_eq_true_eq, decide_true, decide_false, eq_self, not_true_eq_false, not_false_eq_true, jfit0, N_lit, N_add, N_mul, NEG_eq, pl_none, pl_some, rf_some, rf_none, jun_ref, jun_null, ir_ref, ir_null, jr_rf, jun_rf, Option.toList_some, Option.toList_none, List.nil_append, List.cons_append, h.k0, h.r0, x_token h hp h41]
    by_cases c43 : hk (L.drop p) = 43
    · rw [if_pos c43, if_pos c43]
      exact go 43 (fun r => .add e r) c43 (Or.inl rfl) hi40 (fun _ => rfl) (fun _ _ => rfl) (fun r hr => ⟨Nat.le_refl _, hlv, hr⟩) (fun _ => rfl)
    · rw [if_neg c43, if_neg c43, b148_37]
      simp only [N_lit, hkN hL hp (show 45 < 256 by decide)]
      by_cases c45 : hk (L.drop p) = 45
      · rw [if_pos c45, if_pos c45]
        exact go 45 (fun r => .sub e r) c45 (Or.inr rfl) hi40 (fun _ => rfl) (fun _ _ => rfl) (fun r hr => ⟨Nat.le_refl _, hlv, hr⟩) (fun _ => rfl)
      · rw [if_neg c45, if_neg c45]
        simp only [b148_77]
        exact ⟨μ, rfl, stay⟩
  · have hend := last_end hL hp (by omega)
    simp only [N_lit, N_lt (show i < 2147483648 by omega) (show 40 < 2147483648 by decide), hi40, if_false, b148_77]
    rw [if_neg (by omega), if_neg (by omega)]
    exact ⟨μ, rfl, stay⟩
theorem rd_sum (hL : GTS L) (h41 : L.length ≤ 41) (hK : KK G) (i1 : RdM q D g G L n 1) (i4 : RdL q D g G L n 4) : RdM q D g G L (n + 1) 2 := by
  intro dd k w p T O e μ hd hn hkw hp h hT hl hO
  obtain ⟨d, rfl⟩ : ∃ d, dd = d + 6 := ⟨dd - 6, by omega⟩
  have hky := kyG_lt hK
  show ∃ μ', jC (d + 6) 148 [.ref (q + 5), .int (N w)] μ = _ ∧ _
  rw [pP, jC_run (by decide)]
  show ∃ μ', jR (d + 6) 148 0 [.ref (q + 5), .int (N w), .retAddr 0, .retAddr 0] [] μ = _ ∧ _
  obtain ⟨μ2, b1, P2⟩ := i1 (d + 5) k w p T O e μ (by omega) (by omega) hkw hp h hT hl hO
  have hpo := pP_ok hky n 1 w e (L.drop p) (hL.drop hp) (by omega) (fun g => by omega)
  generalize pP (kyG G) n 1 w e (L.drop p) = R at *
  have b1 : jC (d + 5) 149 [.ref (q + 5), .int (N w)] μ = some (some (.int (bN R.1)), μ2) := b1
  simp only [b148_0, gI11, gR11, pI11, pR11, rv11, aI_eq, aB_eq, aR_eq, sI_eq, sB_eq, sR_eq, Option.bind_some, Option.bind_none, if_true, if_false, true_or, or_true, false_or, or_false, true_and, and_true, false_and, and_false, decide_eq_true_eq, decide_true, decide_false, eq_self, not_true_eq_false, not_false_eq_true, jfit0, N_lit, N_add, N_mul, NEG_eq, pl_none, pl_some, rf_some, rf_none, jun_ref, jun_null, ir_ref, ir_null, jr_rf, jun_rf, Option.toList_some, Option.toList_none, List.nil_append, List.cons_append, h.r0, b1, b148_5, bN_0]
  cases eR : R.1 with
  | false =>
    rw [eR] at P2
    simp only [if_true, Bool.false_eq_true, if_false]
    exact ⟨μ2, rfl, pe_any P2⟩
  | true =>
    rw [eR] at P2
    obtain ⟨F2, p2, l2, d2, z2, t2⟩ := P2
    obtain ⟨t2, s2⟩ := t2 rfl
    obtain ⟨q1, q2, q3⟩ := hpo
    obtain ⟨o1, o2, o3, o4⟩ := q3 eR
    have hsz : p ≤ p2 := by
      have := q2.length_le
      rw [← d2, List.length_drop, List.length_drop] at this
      omega
    obtain ⟨μ4, v1, P4⟩ := i4 (d + 6) k w p2 0 T O R.2.2 (.retAddr 0) μ2 (by omega) (by omega) hkw l2 z2 t2 s2 hO (lv_mono (by decide) o1) o2 (by omega)
    rw [d2] at v1 P4
    refine ⟨μ4, ?_, pe_pre F2 P4⟩
    simp only [Bool.true_eq_false, if_false, N_lit]
    exact v1
theorem rd_all (hL : GTS L) (h41 : L.length ≤ 41) (hK : KK G) : ∀ n, RdM q D g G L n 0 ∧ RdM q D g G L n 1 ∧ RdM q D g G L n 2 ∧ RdL q D g G L n 3 ∧ RdL q D g G L n 4
  | 0 => ⟨fun _ _ _ _ _ _ _ _ _ h => by omega, fun _ _ _ _ _ _ _ _ _ h => by omega, fun _ _ _ _ _ _ _ _ _ h => by omega, fun _ _ _ _ _ _ _ _ _ _ _ h => by omega, fun _ _ _ _ _ _ _ _ _ _ _ h => by omega⟩
  | n + 1 => by
    obtain ⟨a, b, c, d, e⟩ := rd_all hL h41 hK n
    exact ⟨rd_one hL h41 hK a c, rd_part hL h41 hK a d, rd_sum hL h41 hK b e, rd_mul hL h41 hK a d, rd_add hL h41 hK b e⟩
end REC2
