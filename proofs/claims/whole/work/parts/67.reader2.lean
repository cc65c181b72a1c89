/-! THE READER: ranges, ones, parts, sums -/
theorem ords_len : ∀ (e : Ex) (u b : Nat), lv u e → (ords b e).length ≤ (tks e).length
  | .natCast _, _, _, _ => Nat.le_refl _
  | .var _, _, _, _ => Nat.le_refl _
  | .num _, _, _, _ => by show 1 ≤ 6; decide
  | .intCast _, _, _, h => h.elim
  | .neg a, u, b, h => by
    have := ords_len a 0 (b + 1) h
    show (ords (b + 1) a ++ [b]).length ≤ (tks a).length + 1
    simp only [List.length_append, List.length_singleton]; omega
  | .pow a k, u, b, h => by
    have := ords_len a 2 (b + 1) h.2
    show (ords (b + 1) a).length ≤ (tks a ++ [(N 41, N 0, N 0)]).length + 1
    simp only [List.length_append, List.length_singleton]; omega
  | .add x y, u, b, h => by
    have h1 := ords_len x 2 b h.2.1
    have h2 := ords_len y 1 (b + (tks x).length + 1) h.2.2
    show (ords b x ++ (ords (b + (tks x).length + 1) y ++ [b + (tks x).length])).length ≤ (tks x ++ (N 43, N 0, N 0) :: tks y).length
    simp only [List.length_append, List.length_singleton, List.length_cons, List.length_nil]; omega
  | .sub x y, u, b, h => by
    have h1 := ords_len x 2 b h.2.1
    have h2 := ords_len y 1 (b + (tks x).length + 1) h.2.2
    show (ords b x ++ (ords (b + (tks x).length + 1) y ++ [b + (tks x).length])).length ≤ (tks x ++ (N 45, N 0, N 0) :: tks y).length
    simp only [List.length_append, List.length_singleton, List.length_cons, List.length_nil]; omega
  | .mul x y, u, b, h => by
    have h1 := ords_len x 1 b h.2.1
    have h2 := ords_len y 0 (b + (tks x).length + 1) h.2.2
    show (ords b x ++ (ords (b + (tks x).length + 1) y ++ [b + (tks x).length])).length ≤ (tks x ++ (N 42, N 0, N 0) :: tks y).length
    simp only [List.length_append, List.length_singleton, List.length_cons, List.length_nil]; omega
section REC
variable {μ μ' μ'' μ1 : jM} {q D g d p p' k w c s n : Nat} {G : DG} {L ts : List T3} {T T' : List Tk} {O O' : List Nat} {ok : Bool} {e : Ex}
theorem pe_any (h : PE μ μ' q D g G L false ts T O) : PE μ μ' q D g G L false ts T' O' := by
  obtain ⟨F, p, a1, a2, a3, a4⟩ := h
  exact ⟨F, p, a1, a2, a3, fun g => by cases g⟩
theorem pe_pre (F : PF q μ μ1) (h : PE μ1 μ' q D g G L ok ts T O) : PE μ μ' q D g G L ok ts T O := ⟨F.trans h.1, h.2⟩
theorem bN_true : bN true = N 1 := rfl
theorem bN_false : bN false = N 0 := rfl
theorem jrf41 : jrf 4 (N 1) = true := rfl
theorem jrf40 : jrf 4 (N 0) = true := rfl
theorem x_readRange (hL : GTS L) (h41 : L.length ≤ 41) (hK : KK G) (h : PZ μ q D g G L p) (hT : PT μ q T O) (hp : p < L.length) (hl : T.length ≤ p) (hO : O.length ≤ T.length) (h1 : hk (L.drop p) = 116 ∨ hk (L.drop p) = 109 ∨ hk (L.drop p) = 108 ∨ hk (L.drop p) = 110) : ∃ μ', jC (d + 3) 156 [.ref (q + 5)] μ = some (some (.int (bN (pRng (kyG G) e (L.drop p)).1)), μ') ∧ PE μ μ' q D g G L (pRng (kyG G) e (L.drop p)).1 (pRng (kyG G) e (L.drop p)).2.1 (T ++ tks (pRng (kyG G) e (L.drop p)).2.2) (O ++ ords T.length (pRng (kyG G) e (L.drop p)).2.2) := by
  have hm := more hL hp (by omega)
  have hky := kyG_lt hK
  obtain ⟨μ1, a1, F1, z1, t1⟩ := x_keep (d := d + 1) (x := N (hk (L.drop p))) (y := N 0) (z := N 0) h hT (by omega) (by omega)
  obtain ⟨μ2, b1, F2, z2, t2⟩ := x_wo (d := d + 2) (o := T.length) z1 t1 (by omega)
  have F12 := F1.trans F2
  obtain ⟨μ3, c1, P3⟩ := x_readSign (d := d) (c := 40) hL h41 z2 t2 hm (by simp; omega) (by decide)
  rw [jC_run (by decide)]
  show ∃ μ', jR (d + 3) 156 0 [.ref (q + 5)] [] μ = _ ∧ _
  simp only [b156_0, gI11, gR11, pI11, pR11, rv11, gI10, gR10, pI10, pR10, rv10, aI_eq, aB_eq, aR_eq, sI_eq, sB_eq, sR_eq, Option.bind_some, Option.bind_none, if_true, if_false, true_or, or_true, false_or, or_false, true_and, and_true, false_and, and_false, decide_eq_true_eq, decide_true, decide_false, eq_self, not_true_eq_false, not_false_eq_true, jfit0, N_lit, N_add, N_mul, NEG_eq, pl_none, pl_some, rf_some, rf_none, jun_ref, jun_null, ir_ref, ir_null, jr_rf, jun_rf, Option.toList_some, Option.toList_none, List.nil_append, List.cons_append, h.k0, h.r0, x_token h hp h41, b156_9, a1, b156_14, z1.r0, b1, b156_17, z2.r0, c1, b156_23]
  rw [drop_tl] at P3 ⊢
  unfold pRng
  by_cases e1 : hk (L.drop p).tail = 40
  · simp only [decide_eq_true e1, if_pos e1] at P3 ⊢
    obtain ⟨F3, p3, l3, d3, z3, t3⟩ := P3
    obtain ⟨t3, s3⟩ := t3 rfl
    obtain ⟨μ4, r1, P4⟩ := x_readRef (d := d) hL h41 hK z3 t3 l3 s3
    simp only [bN_true, n10, if_false, gI11, gR11, pI11, pR11, rv11, aI_eq, aB_eq, aR_eq, sI_eq, sB_eq, sR_eq, Option.bind_some, Option.bind_none, if_true, if_false, true_or, or_true, false_or, or_false, true_and, and_true, false_and, and_false, decide_eq_true_eq, decide_true, decide_false, eq_self, not_true_eq_false, not_false_eq_true, jfit0, N_lit, N_add, N_mul, NEG_eq, pl_none, pl_some, rf_some, rf_none, jun_ref, jun_null, ir_ref, ir_null, jr_rf, jun_rf, Option.toList_some, Option.toList_none, List.nil_append, List.cons_append, z3.r0, r1, b156_30]
    have ok1 := (pRef_ok hky (hL.drop l3)).2.1
    rw [d3] at P4 ok1 ⊢
    generalize pRef (kyG G) (L.drop p).tail.tail = R1 at *
    cases e2 : R1.1 with
    | false =>
      rw [e2] at P4
      simp only [bN_false, if_true, b156_62, b156_63, jrf40, if_false, if_neg Bool.false_ne_true]
      exact ⟨μ4, rfl, pe_pre (F12.trans F3) (pe_any P4)⟩
    | true =>
      rw [e2] at P4
      obtain ⟨F4, p4, l4, d4, z4, t4⟩ := P4
      obtain ⟨t4, s4⟩ := t4 rfl
      obtain ⟨μ5, q1, P5⟩ := x_readSign (d := d) (c := 58) hL h41 z4 t4 l4 s4 (by decide)
      simp only [bN_true, n10, if_false, if_true, gI11, gR11, pI11, pR11, rv11, aI_eq, aB_eq, aR_eq, sI_eq, sB_eq, sR_eq, Option.bind_some, Option.bind_none, if_true, if_false, true_or, or_true, false_or, or_false, true_and, and_true, false_and, and_false, decide_eq_true_eq, decide_true, decide_false, eq_self, not_true_eq_false, not_false_eq_true, jfit0, N_lit, N_add, N_mul, NEG_eq, pl_none, pl_some, rf_some, rf_none, jun_ref, jun_null, ir_ref, ir_null, jr_rf, jun_rf, Option.toList_some, Option.toList_none, List.nil_append, List.cons_append, z4.r0, q1, b156_39]
      rw [d4] at P5 ⊢
      by_cases e3 : hk R1.2.1 = 58
      · simp only [decide_eq_true e3, if_pos e3] at P5 ⊢
        obtain ⟨F5, p5, l5, d5, z5, t5⟩ := P5
        obtain ⟨t5, s5⟩ := t5 rfl
        obtain ⟨μ6, u1, P6⟩ := x_readRef (d := d) hL h41 hK z5 t5 l5 s5
        simp only [bN_true, n10, if_false, gI11, gR11, pI11, pR11, rv11, aI_eq, aB_eq, aR_eq, sI_eq, sB_eq, sR_eq, Option.bind_some, Option.bind_none, if_true, if_false, true_or, or_true, false_or, or_false, true_and, and_true, false_and, and_false, decide_eq_true_eq, decide_true, decide_false, eq_self, not_true_eq_false, not_false_eq_true, jfit0, N_lit, N_add, N_mul, NEG_eq, pl_none, pl_some, rf_some, rf_none, jun_ref, jun_null, ir_ref, ir_null, jr_rf, jun_rf, Option.toList_some, Option.toList_none, List.nil_append, List.cons_append, z5.r0, u1, b156_46]
        have ok2 := (pRef_ok hky (hL.drop l5)).2.1
        rw [d5] at P6 ok2 ⊢
        generalize pRef (kyG G) R1.2.1.tail = R2 at *
        cases e4 : R2.1 with
        | false =>
          rw [e4] at P6
          simp only [bN_false, if_true, b156_62, b156_63, jrf40, if_false, if_neg Bool.false_ne_true]
          exact ⟨μ6, rfl, pe_pre (((F12.trans F3).trans F4).trans F5) (pe_any P6)⟩
        | true =>
          rw [e4] at P6
          obtain ⟨F6, p6, l6, d6, z6, t6⟩ := P6
          obtain ⟨t6, s6⟩ := t6 rfl
          obtain ⟨μ7, v1, P7⟩ := x_readSign (d := d) (c := 41) hL h41 z6 t6 l6 s6 (by decide)
          simp only [bN_true, n10, if_false, if_true, gI11, gR11, pI11, pR11, rv11, aI_eq, aB_eq, aR_eq, sI_eq, sB_eq, sR_eq, Option.bind_some, Option.bind_none, if_true, if_false, true_or, or_true, false_or, or_false, true_and, and_true, false_and, and_false, decide_eq_true_eq, decide_true, decide_false, eq_self, not_true_eq_false, not_false_eq_true, jfit0, N_lit, N_add, N_mul, NEG_eq, pl_none, pl_some, rf_some, rf_none, jun_ref, jun_null, ir_ref, ir_null, jr_rf, jun_rf, Option.toList_some, Option.toList_none, List.nil_append, List.cons_append, z6.r0, v1, b156_55]
          rw [d6] at P7 ⊢
          by_cases e5 : hk R2.2.1 = 41
          · simp only [decide_eq_true e5, if_pos e5, bN_true, n10, if_false, b156_63, jrf41, if_true] at P7 ⊢
            refine ⟨μ7, rfl, pe_pre ((((F12.trans F3).trans F4).trans F5).trans F6) ?_⟩
            obtain ⟨F7, p7, l7, d7, z7, t7⟩ := P7
            refine ⟨F7, p7, l7, d7, z7, fun g => ?_⟩
            obtain ⟨t7, s7⟩ := t7 rfl
            have hR := pRng_ok (e := e) (w := 0) hky (hL.drop hp) (by decide) h1
            have hwc : wT (wcode (hk (L.drop p))) = N (hk (L.drop p)) := by
              rcases h1 with h1 | h1 | h1 | h1 <;> rw [h1] <;> rfl
            have htk : T ++ tks (.num ((wcode (hk (L.drop p)) * 1000000 + R1.2.2 * 1000 + R2.2.2 : Nat) : Int)) = T ++ [(N (hk (L.drop p)), N 0, N 0)] ++ [(N 40, N 0, N 0)] ++ [rT R1.2.2] ++ [(N 58, N 0, N 0)] ++ [rT R2.2.2] ++ [(N 41, N 0, N 0)] := by
              have b1 : R1.2.2 < 1000 ∧ R2.2.2 < 1000 := ⟨rK_lt (ok1 e2).1, rK_lt (ok2 e4).1⟩
              obtain ⟨k1, k2, k3⟩ := rcode (w := wcode (hk (L.drop p))) b1.1 b1.2
              simp only [tks, Int.toNat_natCast, k1, k2, k3, hwc, List.append_assoc, List.cons_append, List.nil_append]
            rw [htk]
            exact ⟨t7, s7⟩
          · simp only [decide_eq_false e5, if_neg e5, bN_false, if_true, b156_62, b156_63, jrf40] at P7 ⊢
            exact ⟨μ7, rfl, pe_pre ((((F12.trans F3).trans F4).trans F5).trans F6) (pe_any P7)⟩
      · simp only [decide_eq_false e3, if_neg e3, bN_false, if_true, b156_62, b156_63, jrf40] at P5 ⊢
        exact ⟨μ5, rfl, pe_pre ((F12.trans F3).trans F4) (pe_any P5)⟩
  · simp only [decide_eq_false e1, if_neg e1, bN_false, if_true, b156_62, b156_63, jrf40] at P3 ⊢
    exact ⟨μ3, rfl, pe_pre F12 (pe_any P3)⟩
/-- a method's reading -/
def RdM (q D g : Nat) (G : DG) (L : List T3) (n u : Nat) : Prop := ∀ (dd k w p : Nat) (T : List Tk) (O : List Nat) (e : Ex) (μ : jM), 4 * k + 4 + u ≤ dd → 4 * (L.length - p) + 1 + u ≤ n → k + w = 4 → p < L.length → PZ μ q D g G L p → PT μ q T O → T.length ≤ p → O.length ≤ T.length → ∃ μ', jC dd (150 - u) [.ref (q + 5), .int (N w)] μ = some (some (.int (bN (pP (kyG G) n u w e (L.drop p)).1)), μ') ∧ PE μ μ' q D g G L (pP (kyG G) n u w e (L.drop p)).1 (pP (kyG G) n u w e (L.drop p)).2.1 (T ++ tks (pP (kyG G) n u w e (L.drop p)).2.2) (O ++ ords T.length (pP (kyG G) n u w e (L.drop p)).2.2)
/-- a loop's reading -/
def RdL (q D g : Nat) (G : DG) (L : List T3) (n u : Nat) : Prop := ∀ (dd k w p i : Nat) (T : List Tk) (O : List Nat) (e : Ex) (u3 : Value) (μ : jM), 4 * k + 4 + (u - 2) ≤ dd → 4 * (L.length - p) + (u - 2) ≤ n → k + w = 4 → p < L.length → PZ μ q D g G L p → PT μ q (T ++ tks e) (O ++ ords T.length e) → (T ++ tks e).length ≤ p → O.length ≤ T.length → lv (u - 2) e → nst e + w ≤ 4 → i ≤ p → ∃ μ', jR dd (152 - u) 12 [.ref (q + 5), .int (N w), .int (N i), u3] [] μ = some (some (.int (bN (pP (kyG G) n u w e (L.drop p)).1)), μ') ∧ PE μ μ' q D g G L (pP (kyG G) n u w e (L.drop p)).1 (pP (kyG G) n u w e (L.drop p)).2.1 (T ++ tks (pP (kyG G) n u w e (L.drop p)).2.2) (O ++ ords T.length (pP (kyG G) n u w e (L.drop p)).2.2)
theorem last_end (hL : GTS L) (hp : p < L.length) (h : p + 1 = L.length) : hk (L.drop p) = 0 := by
  have := (hL.2.1 p _ (hk_drop hp)).1
  exact this.mpr h
/-- ONE -/
theorem rd_one (hL : GTS L) (h41 : L.length ≤ 41) (hK : KK G) (i0 : RdM q D g G L n 0) (i2 : RdM q D g G L n 2) : RdM q D g G L (n + 1) 0 := by
  intro dd k w p T O e μ hd hn hkw hp h hT hl hO
  obtain ⟨d, rfl⟩ : ∃ d, dd = d + 4 := ⟨dd - 4, by omega⟩
  have hky := kyG_lt hK
  show ∃ μ', jC (d + 4) 150 [.ref (q + 5), .int (N w)] μ = _ ∧ _
  rw [jC_run (by decide)]
  show ∃ μ', jR (d + 4) 150 0 [.ref (q + 5), .int (N w)] [] μ = _ ∧ _
  have hh := (hL.drop hp).hd
  simp only [b150_0, gI11, gR11, pI11, pR11, rv11, gI10, gR10, pI10, pR10, rv10, aI_eq, aB_eq, aR_eq, sI_eq, sB_eq, sR_eq, Option.bind_some, Option.bind_none, if_true, if_false, true_or, or_true, false_or, or_false, true_and, and_true, false_and, and_false, decide_eq_true_eq, decide_true, decide_false, eq_self, not_true_eq_false, not_false_eq_true, jfit0, N_lit, N_add, N_mul, NEG_eq, pl_none, pl_some, rf_some, rf_none, jun_ref, jun_null, ir_ref, ir_null, jr_rf, jun_rf, Option.toList_some, Option.toList_none, List.nil_append, List.cons_append, h.k0, h.r0, x_token h hp h41]
  rw [b150_7]
  have e40 := hkN hL hp (show 40 < 256 by decide)
  have e45 := hkN hL hp (show 45 < 256 by decide)
  have e48 := hkN hL hp (show 48 < 256 by decide)
  have e108 := hkN hL hp (show 108 < 256 by decide)
  have e109 := hkN hL hp (show 109 < 256 by decide)
  have e110 := hkN hL hp (show 110 < 256 by decide)
  have e116 := hkN hL hp (show 116 < 256 by decide)
  have hw4 : (N w < N 4) = (w < 4) := N_lt (by omega) (by decide)
  rw [pP]
  simp only [N_lit, e40, e45, e48, e108, e109, e110, e116, hw4, gI11, gR11, pI11, pR11, rv11, gI10, gR10, pI10, pR10, rv10, aI_eq, aB_eq, aR_eq, sI_eq, sB_eq, sR_eq, Option.bind_some, Option.bind_none, if_true, if_false, true_or, or_true, false_or, or_false, true_and, and_true, false_and, and_false, decide_eq_true_eq, decide_true, decide_false, eq_self, not_true_eq_false, not_false_eq_true, jfit0, N_lit, N_add, N_mul, NEG_eq, pl_none, pl_some, rf_some, rf_none, jun_ref, jun_null, ir_ref, ir_null, jr_rf, jun_rf, Option.toList_some, Option.toList_none, List.nil_append, List.cons_append, h.k0, h.r0]
  by_cases c48 : hk (L.drop p) = 48
  · have hm := more hL hp (by omega)
    simp only [if_neg (show ¬ hk (L.drop p) = 40 by omega), if_neg (show ¬ hk (L.drop p) = 45 by omega), if_pos c48]
    obtain ⟨μ1, a1, F1, z1, t1⟩ := x_keep (d := d + 2) (x := N 48) (y := N (hf (L.drop p))) (z := N 0) h hT (by omega) (by omega)
    obtain ⟨μ2, b1, F2, z2, t2⟩ := x_wo (d := d + 3) (o := T.length) z1 t1 (by omega)
    refine ⟨μ2, ?_, F1.trans F2, p + 1, hm, by rw [drop_tl], z2, fun _ => ⟨t2, by simp [tks]; omega⟩⟩
    simp only [x_figure h hp h41, b150_83, gI11, gR11, pI11, pR11, rv11, aI_eq, aB_eq, aR_eq, sI_eq, sB_eq, sR_eq, Option.bind_some, Option.bind_none, if_true, if_false, true_or, or_true, false_or, or_false, true_and, and_true, false_and, and_false, decide_eq_true_eq, decide_true, decide_false, eq_self, not_true_eq_false, not_false_eq_true, jfit0, N_lit, N_add, N_mul, NEG_eq, pl_none, pl_some, rf_some, rf_none, jun_ref, jun_null, ir_ref, ir_null, jr_rf, jun_rf, Option.toList_some, Option.toList_none, List.nil_append, List.cons_append, h.r0, a1, b150_87, z1.r0, b1, b150_90]
    rfl
  · simp only [if_neg c48]
    by_cases c45 : hk (L.drop p) = 45
    · have hm := more hL hp (by omega)
      simp only [if_neg (show ¬ hk (L.drop p) = 40 by omega), if_pos c45]
      by_cases cw : w < 4
      · simp only [if_pos cw]
        obtain ⟨μ1, a1, F1, z1, t1⟩ := x_keep (d := d + 1) (x := N 103) (y := N 0) (z := N 0) h hT (by omega) (by omega)
        obtain ⟨μ2, b1, P2⟩ := i0 (d + 2) (k - 1) (w + 1) (p + 1) _ O e μ1 (by omega) (by omega) (by omega) hm z1 t1 (by simp; omega) (by simp; omega)
        have hpo := pP_ok hky n 0 (w + 1) e (L.drop (p + 1)) (hL.drop hm) (by omega) (fun g => by omega)
        rw [drop_tl] at b1 P2 hpo
        generalize pP (kyG G) n 0 (w + 1) e (L.drop p).tail = R at *
        have b1 : jC (d + 2) 150 [.ref (q + 5), .int (N (w + 1))] μ1 = some (some (.int (bN R.1)), μ2) := b1
        have run : ∀ x, (if bN R.1 = N 0 then some (some (Value.int (N 0)), μ2) else (if jrecv μ2 11 (.ref (q + 5)) = true then (jC (d + 2) 152 [.ref (q + 5), .int (N T.length)] μ2).bind fun p1 => jR (d + 3) 153 24 [.ref (q + 5), .int (N (w + 1)), .int (N T.length)] (p1.1.toList ++ []) p1.2 else none)) = x → jC (d + 3) 153 [.ref (q + 5), .int (N (w + 1))] μ = x := by
          intro x hx
          rw [← hx, jC_run (by decide)]
          show jR (d + 3) 153 0 [.ref (q + 5), .int (N (w + 1)), .retAddr 0] [] μ = _
          simp only [b153_0, gI11, gR11, pI11, pR11, rv11, aI_eq, aB_eq, aR_eq, sI_eq, sB_eq, sR_eq, Option.bind_some, Option.bind_none, if_true, if_false, true_or, or_true, false_or, or_false, true_and, and_true, false_and, and_false, decide_eq_true_eq, decide_true, decide_false, eq_self, not_true_eq_false, not_false_eq_true, jfit0, N_lit, N_add, N_mul, NEG_eq, pl_none, pl_some, rf_some, rf_none, jun_ref, jun_null, ir_ref, ir_null, jr_rf, jun_rf, Option.toList_some, Option.toList_none, List.nil_append, List.cons_append, h.r0, a1, b153_8, z1.r0, b1, b153_14]
        cases eR : R.1 with
        | false =>
          rw [eR] at P2
          rw [run _ rfl, eR]
          simp only [bN_false, aI_eq, aB_eq, aR_eq, sI_eq, sB_eq, sR_eq, Option.bind_some, Option.bind_none, if_true, if_false, true_or, or_true, false_or, or_false, true_and, and_true, false_and, and_false, decide_eq_true_eq, decide_true, decide_false, eq_self, not_true_eq_false, not_false_eq_true, jfit0, N_lit, N_add, N_mul, NEG_eq, pl_none, pl_some, rf_some, rf_none, jun_ref, jun_null, ir_ref, ir_null, jr_rf, jun_rf, Option.toList_some, Option.toList_none, List.nil_append, List.cons_append, b150_104, b150_111, b150_112, jrf40]
          exact ⟨μ2, rfl, pe_pre F1 (pe_any P2)⟩
        | true =>
          rw [eR] at P2
          obtain ⟨F2, p2, l2, d2, z2, t2⟩ := P2
          obtain ⟨t2, s2⟩ := t2 rfl
          obtain ⟨q1, q2, q3⟩ := hpo
          obtain ⟨o1, o2, o3, o4⟩ := q3 eR
          have hol := ords_len R.2.2 0 (T ++ [(N 103, N 0, N 0)]).length o1
          simp only [List.length_append, List.length_singleton] at s2 hol t2
          obtain ⟨μ3, c1, F3, z3, t3⟩ := x_wo (d := d + 2) (o := T.length) z2 t2 (by simp; omega)
          refine ⟨μ3, ?_, F1.trans (F2.trans F3), p2, l2, d2, z3, fun _ => ⟨?_, ?_⟩⟩
          · rw [run _ rfl, eR]
            simp only [bN_true, n10, if_false, gI11, gR11, pI11, pR11, rv11, aI_eq, aB_eq, aR_eq, sI_eq, sB_eq, sR_eq, Option.bind_some, Option.bind_none, if_true, if_false, true_or, or_true, false_or, or_false, true_and, and_true, false_and, and_false, decide_eq_true_eq, decide_true, decide_false, eq_self, not_true_eq_false, not_false_eq_true, jfit0, N_lit, N_add, N_mul, NEG_eq, pl_none, pl_some, rf_some, rf_none, jun_ref, jun_null, ir_ref, ir_null, jr_rf, jun_rf, Option.toList_some, Option.toList_none, List.nil_append, List.cons_append, z2.r0, c1, b153_24, b150_104, b150_112, jrf41]
          · have e1 : T ++ tks (.neg R.2.2) = T ++ [(N 103, N 0, N 0)] ++ tks R.2.2 := by rw [List.append_assoc]; rfl
            have e2 : O ++ ords T.length (.neg R.2.2) = O ++ ords (T.length + 1) R.2.2 ++ [T.length] := by rw [List.append_assoc]; rfl
            rw [e1, e2]; exact t3
          · show (T ++ ((N 103, N 0, N 0) :: tks R.2.2)).length ≤ p2
            simp only [List.length_append, List.length_cons]; omega
      · simp only [if_neg cw, b150_111, b150_112, N_lit, jrf40, if_true]
        exact ⟨μ, rfl, pe_fail PF.refl hp h⟩
    · simp only [if_neg c45]
      by_cases c40 : hk (L.drop p) = 40
      · have hm := more hL hp (by omega)
        simp only [if_pos c40]
        by_cases cw : w < 4
        · simp only [if_pos cw]
          obtain ⟨μ1, a1, F1, z1, t1⟩ := x_keep (d := d + 1) (x := N 40) (y := N 0) (z := N 0) h hT (by omega) (by omega)
          obtain ⟨μ2, b1, P2⟩ := i2 (d + 2) (k - 1) (w + 1) (p + 1) _ O e μ1 (by omega) (by omega) (by omega) hm z1 t1 (by simp; omega) (by simp; omega)
          have hpo := pP_ok hky n 2 (w + 1) e (L.drop (p + 1)) (hL.drop hm) (by omega) (fun g => by omega)
          rw [drop_tl] at b1 P2 hpo
          generalize pP (kyG G) n 2 (w + 1) e (L.drop p).tail = R at *
          have b1 : jC (d + 2) 148 [.ref (q + 5), .int (N (w + 1))] μ1 = some (some (.int (bN R.1)), μ2) := b1
          have run : ∀ x, jR (d + 3) 154 14 [.ref (q + 5), .int (N (w + 1))] [.int (bN R.1)] μ2 = x → jC (d + 3) 154 [.ref (q + 5), .int (N (w + 1))] μ = x := by
            intro x hx
            rw [← hx, jC_run (by decide)]
            show jR (d + 3) 154 0 [.ref (q + 5), .int (N (w + 1))] [] μ = _
            simp only [b154_0, gI11, gR11, pI11, pR11, rv11, aI_eq, aB_eq, aR_eq, sI_eq, sB_eq, sR_eq, Option.bind_some, Option.bind_none, if_true, if_false, true_or, or_true, false_or, or_false, true_and, and_true, false_and, and_false, decide_eq_true_eq, decide_true, decide_false, eq_self, not_true_eq_false, not_false_eq_true, jfit0, N_lit, N_add, N_mul, NEG_eq, pl_none, pl_some, rf_some, rf_none, jun_ref, jun_null, ir_ref, ir_null, jr_rf, jun_rf, Option.toList_some, Option.toList_none, List.nil_append, List.cons_append, h.r0, a1, b154_8, z1.r0, b1]
          cases eR : R.1 with
          | false =>
            rw [eR] at P2 run
            have hr : jC (d + 3) 154 [.ref (q + 5), .int (N (w + 1))] μ = some (some (.int (N 0)), μ2) := run _ (by simp only [b154_14, bN_false, aI_eq, aB_eq, aR_eq, sI_eq, sB_eq, sR_eq, Option.bind_some, Option.bind_none, if_true, if_false, true_or, or_true, false_or, or_false, true_and, and_true, false_and, and_false, decide_eq_true_eq, decide_true, decide_false, eq_self, not_true_eq_false, not_false_eq_true, jfit0, N_lit, N_add, N_mul, NEG_eq, pl_none, pl_some, rf_some, rf_none, jun_ref, jun_null, ir_ref, ir_null, jr_rf, jun_rf, Option.toList_some, Option.toList_none, List.nil_append, List.cons_append, b154_30, b154_31, jrf40])
            simp only [hr, aI_eq, aB_eq, aR_eq, sI_eq, sB_eq, sR_eq, Option.bind_some, Option.bind_none, if_true, if_false, true_or, or_true, false_or, or_false, true_and, and_true, false_and, and_false, decide_eq_true_eq, decide_true, decide_false, eq_self, not_true_eq_false, not_false_eq_true, jfit0, N_lit, N_add, N_mul, NEG_eq, pl_none, pl_some, rf_some, rf_none, jun_ref, jun_null, ir_ref, ir_null, jr_rf, jun_rf, Option.toList_some, Option.toList_none, List.nil_append, List.cons_append, b150_125, b150_132, b150_133, jrf40, Bool.false_eq_true]
            exact ⟨μ2, rfl, pe_pre F1 (pe_any P2)⟩
          | true =>
            rw [eR] at P2 run
            obtain ⟨F2, p2, l2, d2, z2, t2⟩ := P2
            obtain ⟨t2, s2⟩ := t2 rfl
            obtain ⟨μ3, c1, P3⟩ := x_readSign (d := d) (c := 41) hL h41 z2 t2 l2 s2 (by decide)
            rw [d2] at c1 P3
            have hr : jC (d + 3) 154 [.ref (q + 5), .int (N (w + 1))] μ = some (some (.int (bN (decide (hk R.2.1 = 41)))), μ3) := run _ (by
              simp only [b154_14, bN_true, n10, if_false, gI11, gR11, pI11, pR11, rv11, aI_eq, aB_eq, aR_eq, sI_eq, sB_eq, sR_eq, Option.bind_some, Option.bind_none, if_true, if_false, true_or, or_true, false_or, or_false, true_and, and_true, false_and, and_false, decide_eq_true_eq, decide_true, decide_false, eq_self, not_true_eq_false, not_false_eq_true, jfit0, N_lit, N_add, N_mul, NEG_eq, pl_none, pl_some, rf_some, rf_none, jun_ref, jun_null, ir_ref, ir_null, jr_rf, jun_rf, Option.toList_some, Option.toList_none, List.nil_append, List.cons_append, z2.r0, c1, b154_23, bN_0]
              by_cases e5 : hk R.2.1 = 41
              · simp only [decide_eq_true e5, Bool.true_eq_false, if_false, b154_31, jrf41, if_true, N_lit]; rfl
              · simp only [decide_eq_false e5, if_true, b154_30, b154_31, jrf40, N_lit]; rfl)
            simp only [hr, aI_eq, aB_eq, aR_eq, sI_eq, sB_eq, sR_eq, Option.bind_some, Option.bind_none, if_true, if_false, true_or, or_true, false_or, or_false, true_and, and_true, false_and, and_false, decide_eq_true_eq, decide_true, decide_false, eq_self, not_true_eq_false, not_false_eq_true, jfit0, N_lit, N_add, N_mul, NEG_eq, pl_none, pl_some, rf_some, rf_none, jun_ref, jun_null, ir_ref, ir_null, jr_rf, jun_rf, Option.toList_some, Option.toList_none, List.nil_append, List.cons_append, b150_125, bN_0]
            by_cases e5 : hk R.2.1 = 41
            · simp only [decide_eq_true e5, if_pos e5] at P3 ⊢
              obtain ⟨F3, p3, l3, d3, z3, t3⟩ := P3
              obtain ⟨t3, s3⟩ := t3 rfl
              simp only [Bool.true_eq_false, if_false, b150_133, N_lit, jrf41, if_true]
              refine ⟨μ3, rfl, F1.trans (F2.trans F3), p3, l3, d3, z3, fun _ => ?_⟩
              have e1 : T ++ tks (.pow R.2.2 0) = T ++ [(N 40, N 0, N 0)] ++ tks R.2.2 ++ [(N 41, N 0, N 0)] := by rw [List.append_assoc, List.append_assoc]; rfl
              have e2 : O ++ ords T.length (.pow R.2.2 0) = O ++ ords (T ++ [(N 40, N 0, N 0)]).length R.2.2 := by rw [List.length_append]; rfl
              rw [e1, e2]; exact ⟨t3, s3⟩
            · simp only [decide_eq_false e5, if_neg e5] at P3 ⊢
              simp only [if_true, b150_132, b150_133, N_lit, jrf40]
              exact ⟨μ3, rfl, pe_pre (F1.trans F2) (pe_any P3)⟩
        · simp only [if_neg cw, b150_132, b150_133, N_lit, jrf40, if_true]
          exact ⟨μ, rfl, pe_fail PF.refl hp h⟩
      · simp only [if_neg c40]
        by_cases cW : hk (L.drop p) = 116 ∨ hk (L.drop p) = 109 ∨ hk (L.drop p) = 108 ∨ hk (L.drop p) = 110
        · simp only [if_pos cW]
          obtain ⟨μ1, r1, P1⟩ := x_readRange (d := d) (e := e) hL h41 hK h hT hp hl hO cW
          have jb : ∀ b : Bool, jrf 4 (bN b) = true := fun b => by cases b <;> rfl
          have fin : ∀ x, x = jR (d + 4) 150 138 [.ref (q + 5), .int (N w)] [.int (bN (pRng (kyG G) e (L.drop p)).1)] μ1 → x = some (some (.int (bN (pRng (kyG G) e (L.drop p)).1)), μ1) := by
            intro x hx
            rw [hx]
            simp only [b150_138, jb, if_true]
          refine ⟨μ1, fin _ ?_, P1⟩
          rcases cW with cW | cW | cW | cW <;> simp only [cW, r1, aI_eq, aB_eq, aR_eq, sI_eq, sB_eq, sR_eq, Option.bind_some, Option.bind_none, if_true, if_false, true_or, or_true, false_or, or_false, true_and, and_true, false_and, and_false, decide_eq_true_eq, decide_true, decide_false, eq_self, not_true_eq_false, not_false_eq_true, jfit0, N_lit, N_add, N_mul, NEG_eq, pl_none, pl_some, rf_some, rf_none, jun_ref, jun_null, ir_ref, ir_null, jr_rf, jun_rf, Option.toList_some, Option.toList_none, List.nil_append, List.cons_append, show ((116 : Nat) = 108) = False by decide, show ((116 : Nat) = 109) = False by decide, show ((116 : Nat) = 110) = False by decide, show ((109 : Nat) = 108) = False by decide, show ((110 : Nat) = 108) = False by decide, show ((110 : Nat) = 109) = False by decide]
        · simp only [if_neg cW, if_neg (show ¬ hk (L.drop p) = 108 from fun g => cW (Or.inr (Or.inr (Or.inl g)))), if_neg (show ¬ hk (L.drop p) = 109 from fun g => cW (Or.inr (Or.inl g))), if_neg (show ¬ hk (L.drop p) = 110 from fun g => cW (Or.inr (Or.inr (Or.inr g)))), if_neg (show ¬ hk (L.drop p) = 116 from fun g => cW (Or.inl g))]
          have jb : ∀ b : Bool, jrf 4 (bN b) = true := fun b => by cases b <;> rfl
          by_cases hO4 : O.length < 40
          · obtain ⟨μ1, a1, F1, z1, t1⟩ := x_wo (d := d + 3) (o := T.length) h hT hO4
            obtain ⟨μ2, b1, P2⟩ := x_readRef (d := d + 1) hL h41 hK z1 t1 hp hl
            refine ⟨μ2, ?_, pe_pre F1 P2⟩
            simp only [hT.1, a1, aI_eq, aB_eq, aR_eq, sI_eq, sB_eq, sR_eq, Option.bind_some, Option.bind_none, if_true, if_false, true_or, or_true, false_or, or_false, true_and, and_true, false_and, and_false, decide_eq_true_eq, decide_true, decide_false, eq_self, not_true_eq_false, not_false_eq_true, jfit0, N_lit, N_add, N_mul, NEG_eq, pl_none, pl_some, rf_some, rf_none, jun_ref, jun_null, ir_ref, ir_null, jr_rf, jun_rf, Option.toList_some, Option.toList_none, List.nil_append, List.cons_append, b150_147, gI11, gR11, pI11, pR11, rv11, z1.r0, b1, b150_151, jb]
          · have hp40 : p + 1 = L.length := by omega
            have hend := last_end hL hp hp40
            have hO40 : O.length = 40 := by omega
            obtain ⟨μ2, b1, P2⟩ := x_readRef (d := d + 1) hL h41 hK h hT hp hl
            have hfl : (pRef (kyG G) (L.drop p)).1 = false := by
              unfold pRef
              rw [if_neg (by omega), if_neg (by omega), if_neg (by omega)]
            refine ⟨μ2, ?_, ?_⟩
            · simp only [hT.1, x_wo40 h hT hO40, aI_eq, aB_eq, aR_eq, sI_eq, sB_eq, sR_eq, Option.bind_some, Option.bind_none, if_true, if_false, true_or, or_true, false_or, or_false, true_and, and_true, false_and, and_false, decide_eq_true_eq, decide_true, decide_false, eq_self, not_true_eq_false, not_false_eq_true, jfit0, N_lit, N_add, N_mul, NEG_eq, pl_none, pl_some, rf_some, rf_none, jun_ref, jun_null, ir_ref, ir_null, jr_rf, jun_rf, Option.toList_some, Option.toList_none, List.nil_append, List.cons_append, b150_147, gI11, gR11, pI11, pR11, rv11, h.r0, b1, b150_151, jb]
            · rw [hfl] at P2 ⊢; exact pe_any P2
end REC
