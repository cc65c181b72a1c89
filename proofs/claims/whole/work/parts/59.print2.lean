/-! PRINTING: the methods -/
section PRN2
variable {μ μ' μb : jM} {a t cap d n w c i g f B D : Nat} {s u : List Nat} {v : Int32} {G : DG} {tk : Tk}
theorem ch16_all : ∀ c : Fin 128, (Int32.toUInt32 (N c.val) % 65536).toInt32 = N c.val := by decide +kernel
theorem ch16 (h : c < 128) : (Int32.toUInt32 (N c) % 65536).toInt32 = N c := ch16_all ⟨c, h⟩
theorem PS.mono {n' w' : Nat} (h : PS μb n w μ a t cap s) (hn : n ≤ n') (hw : w ≤ w') : PS μb n' w' μ a t cap s := ⟨h.1.mono (fun _ _ g => g) (fun _ _ _ g => g) hn hw, h.2⟩
theorem x_printSign (hx : KX μb B) (hjb : JW μb) (hp : PS μb n w μ a t cap s) (ht : (∃ w, w < 4 ∧ tk = (wT w, N 0, N 0)) ∨ ∃ c, (c = 103 ∨ c = 40 ∨ c = 41 ∨ c = 42 ∨ c = 43 ∨ c = 45 ∨ c = 58) ∧ tk = (N c, N 0, N 0)) (hm : s.length + (tkp G tk).length ≤ 40) : ∃ μ' t' cap', jC (d + 7) 84 [.ref a, .int tk.1] μ = some (none, μ') ∧ PS μb (n + 1) (w + 80) μ' a t' cap' (s ++ tkp G tk) := by
  have hX := hx.fa hjb hp.1 (fun _ _ => id) (fun _ _ _ => id)
  have ka : jk μ a = 1 := hp.2.1.1.1
  have kj : ∀ j u, kw j = some u → ∃ b, jext μ j = .ref b := fun j u h => by
    obtain ⟨b, -, -, -, h3, -⟩ := hX.2.2.2 j u h
    exact ⟨b, h3⟩
  have word : ∀ (j : Nat) (u : List Nat) (p : Nat), kw j = some u → tkp G tk = u → ∃ μ' t' cap', jC (d + 6) 294 [.ref a, jext μ j] μ = some (some (.ref a), μ') ∧ PS μb (n + 1) (w + 80) μ' a t' cap' (s ++ tkp G tk) := fun j u p h e => by
    rw [e] at hm ⊢
    exact ps_str hx hjb hp h hm
  have one : ∀ c, c < 128 → tkp G tk = [c] → ∃ μ' t' cap', jC (d + 6) 292 [.ref a, .int (N c)] μ = some (some (.ref a), μ') ∧ PS μb (n + 1) (w + 80) μ' a t' cap' (s ++ tkp G tk) := fun c h e => by
    rw [e] at hm ⊢
    exact ps_char (d := d + 1) hx.1 hp h hm
  have hd : jC (d + 7) 84 [.ref a, .int tk.1] μ = jR (d + 7) 84 0 [.ref a, .int tk.1] [] μ := by rw [jC_run (by decide)]; rfl
  rw [hd, b84_0 (h0 := ir_ref) (hx := hX.1)]
  rcases ht with ⟨w, hw, rfl⟩ | ⟨c, hc, rfl⟩
  · obtain rfl | rfl | rfl | rfl : w = 0 ∨ w = 1 ∨ w = 2 ∨ w = 3 := by omega
    · obtain ⟨μ', t', cap', r1, r2⟩ := word 12 [116, 111, 116, 97, 108] 0 rfl rfl
      refine ⟨μ', t', cap', ?_, r2⟩
      rw [show (wT 0, N 0, N 0).1 = N 116 from rfl]
      simp only [aI_eq, aB_eq, aR_eq, sI_eq, sB_eq, sR_eq, Option.bind_some, Option.bind_none, if_true, if_false, true_or, or_true, false_or, or_false, true_and, and_true, false_and, and_false, decide_eq_true_eq, decide_true, decide_false, eq_self, not_true_eq_false, not_false_eq_true, jfit0, N_lit, N_add, N_mul, NEG_eq, pl_none, pl_some, rf_some, rf_none, jun_ref, jun_null, ir_ref, ir_null, jr_rf, jun_rf, Option.toList_some, Option.toList_none, List.nil_append, List.cons_append, show (N 116 = N 103) = False from N_ne (by decide) (by decide) (by decide), show (N 116 = N 104) = False from N_ne (by decide) (by decide) (by decide), show (N 116 = N 105) = False from N_ne (by decide) (by decide) (by decide), show (N 116 = N 106) = False from N_ne (by decide) (by decide) (by decide), show (N 116 = N 107) = False from N_ne (by decide) (by decide) (by decide), show (N 116 = N 108) = False from N_ne (by decide) (by decide) (by decide), show (N 116 = N 109) = False from N_ne (by decide) (by decide) (by decide), show (N 116 = N 110) = False from N_ne (by decide) (by decide) (by decide), show (N 116 = N 111) = False from N_ne (by decide) (by decide) (by decide), show (N 116 = N 112) = False from N_ne (by decide) (by decide) (by decide), show (N 116 = N 113) = False from N_ne (by decide) (by decide) (by decide), show (N 116 = N 114) = False from N_ne (by decide) (by decide) (by decide), show (N 116 = N 115) = False from N_ne (by decide) (by decide) (by decide), gI1, gR1, pI1, pR1, rv1, ka, r1]
      rw [b84_78 (hs0 := ir_ref), b84_129]
    · obtain ⟨μ', t', cap', r1, r2⟩ := word 13 [109, 111, 115, 116] 0 rfl rfl
      refine ⟨μ', t', cap', ?_, r2⟩
      rw [show (wT 1, N 0, N 0).1 = N 109 from rfl]
      simp only [aI_eq, aB_eq, aR_eq, sI_eq, sB_eq, sR_eq, Option.bind_some, Option.bind_none, if_true, if_false, true_or, or_true, false_or, or_false, true_and, and_true, false_and, and_false, decide_eq_true_eq, decide_true, decide_false, eq_self, not_true_eq_false, not_false_eq_true, jfit0, N_lit, N_add, N_mul, NEG_eq, pl_none, pl_some, rf_some, rf_none, jun_ref, jun_null, ir_ref, ir_null, jr_rf, jun_rf, Option.toList_some, Option.toList_none, List.nil_append, List.cons_append, show (N 109 = N 103) = False from N_ne (by decide) (by decide) (by decide), show (N 109 = N 104) = False from N_ne (by decide) (by decide) (by decide), show (N 109 = N 105) = False from N_ne (by decide) (by decide) (by decide), show (N 109 = N 106) = False from N_ne (by decide) (by decide) (by decide), show (N 109 = N 107) = False from N_ne (by decide) (by decide) (by decide), show (N 109 = N 108) = False from N_ne (by decide) (by decide) (by decide), gI1, gR1, pI1, pR1, rv1, ka, r1]
      rw [b84_88 (hs0 := ir_ref), b84_129]
    · obtain ⟨μ', t', cap', r1, r2⟩ := word 14 [108, 101, 97, 115, 116] 0 rfl rfl
      refine ⟨μ', t', cap', ?_, r2⟩
      rw [show (wT 2, N 0, N 0).1 = N 108 from rfl]
      simp only [aI_eq, aB_eq, aR_eq, sI_eq, sB_eq, sR_eq, Option.bind_some, Option.bind_none, if_true, if_false, true_or, or_true, false_or, or_false, true_and, and_true, false_and, and_false, decide_eq_true_eq, decide_true, decide_false, eq_self, not_true_eq_false, not_false_eq_true, jfit0, N_lit, N_add, N_mul, NEG_eq, pl_none, pl_some, rf_some, rf_none, jun_ref, jun_null, ir_ref, ir_null, jr_rf, jun_rf, Option.toList_some, Option.toList_none, List.nil_append, List.cons_append, show (N 108 = N 103) = False from N_ne (by decide) (by decide) (by decide), show (N 108 = N 104) = False from N_ne (by decide) (by decide) (by decide), show (N 108 = N 105) = False from N_ne (by decide) (by decide) (by decide), show (N 108 = N 106) = False from N_ne (by decide) (by decide) (by decide), show (N 108 = N 107) = False from N_ne (by decide) (by decide) (by decide), gI1, gR1, pI1, pR1, rv1, ka, r1]
      rw [b84_98 (hs0 := ir_ref), b84_129]
    · obtain ⟨μ', t', cap', r1, r2⟩ := word 15 [109, 97, 110, 121] 0 rfl rfl
      refine ⟨μ', t', cap', ?_, r2⟩
      rw [show (wT 3, N 0, N 0).1 = N 110 from rfl]
      simp only [aI_eq, aB_eq, aR_eq, sI_eq, sB_eq, sR_eq, Option.bind_some, Option.bind_none, if_true, if_false, true_or, or_true, false_or, or_false, true_and, and_true, false_and, and_false, decide_eq_true_eq, decide_true, decide_false, eq_self, not_true_eq_false, not_false_eq_true, jfit0, N_lit, N_add, N_mul, NEG_eq, pl_none, pl_some, rf_some, rf_none, jun_ref, jun_null, ir_ref, ir_null, jr_rf, jun_rf, Option.toList_some, Option.toList_none, List.nil_append, List.cons_append, show (N 110 = N 103) = False from N_ne (by decide) (by decide) (by decide), show (N 110 = N 104) = False from N_ne (by decide) (by decide) (by decide), show (N 110 = N 105) = False from N_ne (by decide) (by decide) (by decide), show (N 110 = N 106) = False from N_ne (by decide) (by decide) (by decide), show (N 110 = N 107) = False from N_ne (by decide) (by decide) (by decide), show (N 110 = N 108) = False from N_ne (by decide) (by decide) (by decide), show (N 110 = N 109) = False from N_ne (by decide) (by decide) (by decide), gI1, gR1, pI1, pR1, rv1, ka, r1]
      rw [b84_108 (hs0 := ir_ref), b84_129]
  · rcases hc with rfl | hc
    · obtain ⟨μ', t', cap', r1, r2⟩ := one 45 (by decide) rfl
      refine ⟨μ', t', cap', ?_, r2⟩
      simp only [aI_eq, aB_eq, aR_eq, sI_eq, sB_eq, sR_eq, Option.bind_some, Option.bind_none, if_true, if_false, true_or, or_true, false_or, or_false, true_and, and_true, false_and, and_false, decide_eq_true_eq, decide_true, decide_false, eq_self, not_true_eq_false, not_false_eq_true, jfit0, N_lit, N_add, N_mul, NEG_eq, pl_none, pl_some, rf_some, rf_none, jun_ref, jun_null, ir_ref, ir_null, jr_rf, jun_rf, Option.toList_some, Option.toList_none, List.nil_append, List.cons_append, gI1, gR1, pI1, pR1, rv1, ka, r1]
      rw [b84_118 (hs0 := ir_ref), b84_129]
    · obtain ⟨μ', t', cap', r1, r2⟩ := one c (by omega) (by rcases hc with rfl | rfl | rfl | rfl | rfl | rfl <;> rfl)
      refine ⟨μ', t', cap', ?_, r2⟩
      have c16 : (Int32.toUInt32 (N c) % 65536).toInt32 = N c := ch16 (by omega)
      have ne : ∀ k, 103 ≤ k → k < 117 → (N c = N k) = False := fun k h1 h2 => N_ne (by omega) (by omega) (by omega)
      simp only [aI_eq, aB_eq, aR_eq, sI_eq, sB_eq, sR_eq, Option.bind_some, Option.bind_none, if_true, if_false, true_or, or_true, false_or, or_false, true_and, and_true, false_and, and_false, decide_eq_true_eq, decide_true, decide_false, eq_self, not_true_eq_false, not_false_eq_true, jfit0, N_lit, N_add, N_mul, NEG_eq, pl_none, pl_some, rf_some, rf_none, jun_ref, jun_null, ir_ref, ir_null, jr_rf, jun_rf, Option.toList_some, Option.toList_none, List.nil_append, List.cons_append, gI1, gR1, pI1, pR1, rv1, ka, ne 103 (by decide) (by decide), ne 104 (by decide) (by decide), ne 105 (by decide) (by decide), ne 106 (by decide) (by decide), ne 107 (by decide) (by decide), ne 108 (by decide) (by decide), ne 109 (by decide) (by decide), ne 110 (by decide) (by decide), ne 111 (by decide) (by decide), ne 112 (by decide) (by decide), ne 113 (by decide) (by decide), ne 114 (by decide) (by decide), ne 115 (by decide) (by decide), ne 116 (by decide) (by decide)]
      rw [c16, r1]
      simp only [aI_eq, aB_eq, aR_eq, sI_eq, sB_eq, sR_eq, Option.bind_some, Option.bind_none, if_true, if_false, true_or, or_true, false_or, or_false, true_and, and_true, false_and, and_false, decide_eq_true_eq, decide_true, decide_false, eq_self, not_true_eq_false, not_false_eq_true, jfit0, N_lit, N_add, N_mul, NEG_eq, pl_none, pl_some, rf_some, rf_none, jun_ref, jun_null, ir_ref, ir_null, jr_rf, jun_rf, Option.toList_some, Option.toList_none, List.nil_append, List.cons_append]
      rw [b84_128 (hs0 := ir_ref), b84_129]
/-- what is known of a formula and a grid, behind the builder -/
def PG (μ : jM) (D g : Nat) (G : DG) : Prop := GV μ D g ∧ dG μ (xA g) = G
theorem pg_at (hg : PG μb D g G) (hjb : JW μb) (h : PS μb n w μ a t cap s) : PG μ D g G := by
  obtain ⟨g1, g2⟩ := hg.1.outa hjb h.1 (fun _ _ k => k.elim) (fun _ _ _ k => k.elim)
  exact ⟨g1, g2.trans hg.2⟩
theorem fs_at (hf : FS μb D f) (hjb : JW μb) (h : PS μb n w μ a t cap s) : FS μ D f ∧ ftk μ f = ftk μb f := by
  obtain ⟨g1, g2, -⟩ := (h.1.fd (D := D) hjb (fun _ _ k => k.elim) (fun _ _ _ k => k.elim)).fs hf
  exact ⟨g1, g2⟩
theorem x_printRef {A R : List Tk} (hx : KX μb B) (hjb : JW μb) (hf : FS μb D f) (hz : KZ G) (hG : G.length ≤ 8) (hp : PS μb n w μ a t cap s) (ht : ftk μb f = A ++ rT i :: R) (hA : A.length = c) (hr : rK i) (hm : s.length + tw (rT i) ≤ 40) : ∃ μ' t' cap', jC (d + 6) 83 [.ref f, .ref a, .int (N c), .int (pl (lfind (N (i / 8)) G))] μ = some (none, μ') ∧ PS μb (n + 3) (w + 240) μ' a t' cap' (s ++ tkp G (rT i)) := by
  have e48 : ¬ (rT i).1 = N 48 := by
    rcases rT_fst (i := i) with e | e
    · rw [e]; decide
    · rw [e]; decide
  have ka : jk μ a = 1 := hp.2.1.1.1
  obtain ⟨hf1, ht1⟩ := fs_at hf hjb hp
  obtain ⟨t1, t2, t3, t4, t5⟩ := tk_at hf1 (ht1.trans ht) hA
  have bc : c < 2147483648 := by omega
  rw [jC_run (by decide)]
  show ∃ μ' t' cap', jR (d + 6) 83 0 [.ref f, .ref a, .int (N c), .int (pl (lfind (N (i / 8)) G))] [] μ = _ ∧ _
  have e5 : (rT i).2.2 = N (i / 8) := rfl
  have e4 : (rT i).2.1 = N (i / 2 % 4) := rfl
  cases e : lfind (N (i / 8)) G with
  | none =>
    have et : tkp G (rT i) = [35] := by
      unfold tkp
      rw [if_neg e48, if_pos rT_fst, e5, e]
    have hw1 : 1 ≤ tw (rT i) := tw_pos _
    obtain ⟨μ', t', cap', r1, r2⟩ := ps_char (d := d) (c := 35) hx.1 hp (by decide) (by omega)
    refine ⟨μ', t', cap', ?_, by rw [et]; exact r2.mono (by omega) (by omega)⟩
    rw [b83_0 (h1 := ir_ref)]
    simp only [aI_eq, aB_eq, aR_eq, sI_eq, sB_eq, sR_eq, Option.bind_some, Option.bind_none, if_true, if_false, true_or, or_true, false_or, or_false, true_and, and_true, false_and, and_false, decide_eq_true_eq, decide_true, decide_false, eq_self, not_true_eq_false, not_false_eq_true, jfit0, N_lit, N_add, N_mul, NEG_eq, pl_none, pl_some, rf_some, rf_none, jun_ref, jun_null, ir_ref, ir_null, jr_rf, jun_rf, Option.toList_some, Option.toList_none, List.nil_append, List.cons_append, gI1, gR1, pI1, pR1, rv1, ka, r1]
    rw [b83_11 (hs0 := ir_ref)]
  | some p =>
    have hp8 : p < 8 := by have := lfind_lt e; omega
    have h0 : ¬ N (i / 8) = N 0 := fun g => by rw [g, lfind_0 hz] at e; cases e
    have eN : (N p = NEG) = False := N_NEG (by omega)
    have c16 : (Int32.toUInt32 (N (97 + i / 2 % 4)) % 65536).toInt32 = N (97 + i / 2 % 4) := ch16 (by omega)
    have ed : dec (N (p + 1)) = [48 + (p + 1)] := dec_1 (by omega)
    have tail : ∀ (μ1 : jM) (t1 cap1 : Nat) (s1 : List Nat) (m v : Nat), PS μb m v μ1 a t1 cap1 s1 → s1.length + 2 ≤ 40 → ∃ μ' t' cap', jR (d + 6) 83 31 [.ref f, .ref a, .int (N c), .int (N p)] [] μ1 = some (none, μ') ∧ PS μb (m + 2) (v + 160) μ' a t' cap' (s1 ++ [97 + i / 2 % 4, 48 + (p + 1)]) := by
      intro μ1 t1 cap1 s1 m v h1 hs1
      obtain ⟨hf2, ht2⟩ := fs_at hf hjb h1
      obtain ⟨y1, y2, y3, y4, y5⟩ := tk_at hf2 (ht2.trans ht) hA
      obtain ⟨μ2, t2, cap2, r1, r2⟩ := ps_char (d := d) (c := 97 + i / 2 % 4) hx.1 h1 (by omega) (by omega)
      obtain ⟨μ3, t3, cap3, r3, r4⟩ := ps_int (d := d) (v := N (p + 1)) hx hjb r2 (by rw [List.length_append, ed]; simp only [List.length_cons, List.length_nil]; omega)
      have k1 : jk μ1 a = 1 := h1.2.1.1.1
      have k2 : jk μ2 a = 1 := r2.2.1.1.1
      refine ⟨μ3, t3, cap3, ?_, ?_⟩
      · rw [b83_31 (h1 := ir_ref)]
        simp only [aI_eq, aB_eq, aR_eq, sI_eq, sB_eq, sR_eq, Option.bind_some, Option.bind_none, if_true, if_false, true_or, or_true, false_or, or_false, true_and, and_true, false_and, and_false, decide_eq_true_eq, decide_true, decide_false, eq_self, not_true_eq_false, not_false_eq_true, jfit0, N_lit, N_add, N_mul, NEG_eq, pl_none, pl_some, rf_some, rf_none, jun_ref, jun_null, ir_ref, ir_null, jr_rf, jun_rf, Option.toList_some, Option.toList_none, List.nil_append, List.cons_append, gI1, gR1, pI1, pR1, rv1, gI5, gR5, pI5, pR5, rv5, hf2.1, hf2.r z4.2.1, hf2.k z4.2.1, hf2.2.2.2.1, jinb_N bc, y1, N_nat bc, y4, e4, k1]
        rw [c16, r1]
        simp only [aI_eq, aB_eq, aR_eq, sI_eq, sB_eq, sR_eq, Option.bind_some, Option.bind_none, if_true, if_false, true_or, or_true, false_or, or_false, true_and, and_true, false_and, and_false, decide_eq_true_eq, decide_true, decide_false, eq_self, not_true_eq_false, not_false_eq_true, jfit0, N_lit, N_add, N_mul, NEG_eq, pl_none, pl_some, rf_some, rf_none, jun_ref, jun_null, ir_ref, ir_null, jr_rf, jun_rf, Option.toList_some, Option.toList_none, List.nil_append, List.cons_append]
        rw [b83_45 (hs0 := ir_ref)]
        simp only [aI_eq, aB_eq, aR_eq, sI_eq, sB_eq, sR_eq, Option.bind_some, Option.bind_none, if_true, if_false, true_or, or_true, false_or, or_false, true_and, and_true, false_and, and_false, decide_eq_true_eq, decide_true, decide_false, eq_self, not_true_eq_false, not_false_eq_true, jfit0, N_lit, N_add, N_mul, NEG_eq, pl_none, pl_some, rf_some, rf_none, jun_ref, jun_null, ir_ref, ir_null, jr_rf, jun_rf, Option.toList_some, Option.toList_none, List.nil_append, List.cons_append, gI1, gR1, pI1, pR1, rv1, k2, r3]
        rw [b83_51 (hs0 := ir_ref)]
      · rw [ed, List.append_assoc] at r4
        exact r4
    rw [b83_0 (h1 := ir_ref)]
    simp only [aI_eq, aB_eq, aR_eq, sI_eq, sB_eq, sR_eq, Option.bind_some, Option.bind_none, if_true, if_false, true_or, or_true, false_or, or_false, true_and, and_true, false_and, and_false, decide_eq_true_eq, decide_true, decide_false, eq_self, not_true_eq_false, not_false_eq_true, jfit0, N_lit, N_add, N_mul, NEG_eq, pl_none, pl_some, rf_some, rf_none, jun_ref, jun_null, ir_ref, ir_null, jr_rf, jun_rf, Option.toList_some, Option.toList_none, List.nil_append, List.cons_append, gI1, gR1, pI1, pR1, rv1, gI5, gR5, pI5, pR5, rv5, eN, hf1.1, hf1.r z4.1, hf1.k z4.1, jinb_N bc, t1, N_nat bc, t3, ka]
    rcases rT_fst (i := i) with e3 | e3
    · have ht114 : tkp G (rT i) = [97 + i / 2 % 4, 48 + (p + 1)] := by
        unfold tkp
        rw [if_neg e48, if_pos rT_fst, e5, e, e4, N_nat (by omega)]
        simp only [ed]
        rw [if_neg (show ¬ (rT i).1 = N 115 by rw [e3]; decide)]; rfl
      have htw : tw (rT i) = 2 := by
        unfold tw
        rw [if_neg e48, if_pos e3, e5, if_neg h0]
      obtain ⟨μ', t', cap', r1, r2⟩ := tail μ t cap s n w hp (by omega)
      refine ⟨μ', t', cap', ?_, by rw [ht114]; exact r2.mono (by omega) (by omega)⟩
      rw [e3, if_neg (by decide)]
      exact r1
    · have ht115 : tkp G (rT i) = [36] ++ [97 + i / 2 % 4, 48 + (p + 1)] := by
        unfold tkp
        rw [if_neg e48, if_pos rT_fst, e5, e, e4, N_nat (by omega)]
        simp only [ed]
        rw [if_pos e3]
      have htw : tw (rT i) = 3 := by
        unfold tw
        rw [if_neg e48, if_neg (show ¬ (rT i).1 = N 114 by rw [e3]; decide), if_pos e3]
      obtain ⟨μ1, t1', cap1, r1, r2⟩ := ps_char (d := d) (c := 36) hx.1 hp (by decide) (by omega)
      obtain ⟨μ', t', cap', r3, r4⟩ := tail μ1 t1' cap1 (s ++ [36]) _ _ r2 (by simp only [List.length_append, List.length_cons, List.length_nil]; omega)
      refine ⟨μ', t', cap', ?_, by rw [ht115, ← List.append_assoc]; exact r4.mono (by omega) (by omega)⟩
      rw [if_pos e3]
      simp only [r1, aI_eq, aB_eq, aR_eq, sI_eq, sB_eq, sR_eq, Option.bind_some, Option.bind_none, if_true, if_false, true_or, or_true, false_or, or_false, true_and, and_true, false_and, and_false, decide_eq_true_eq, decide_true, decide_false, eq_self, not_true_eq_false, not_false_eq_true, jfit0, N_lit, N_add, N_mul, NEG_eq, pl_none, pl_some, rf_some, rf_none, jun_ref, jun_null, ir_ref, ir_null, jr_rf, jun_rf, Option.toList_some, Option.toList_none, List.nil_append, List.cons_append]
      rw [b83_30 (h1 := ir_ref) (hs0 := ir_ref)]
      exact r3
/-- one token -/
theorem x_printTok {A R : List Tk} (hx : KX μb B) (hjb : JW μb) (hg : PG μb D g G) (hf : FS μb D f) (hz : KZ G) (hp : PS μb n w μ a t cap s) (ht : ftk μb f = A ++ tk :: R) (hA : A.length = c) (hk : tkOK tk) (hm : s.length + tw tk ≤ 40) : ∃ μ' t' cap', jR (d + 8) 82 9 [.ref f, .ref a, .ref g, .int (N c)] [] μ = jR (d + 8) 82 9 [.ref f, .ref a, .ref g, .int (N (c + 1))] [] μ' ∧ PS μb (n + 3) (w + 240) μ' a t' cap' (s ++ tkp G tk) := by
  have hG : G.length ≤ 8 := by rw [← hg.2, len_dG]; exact hg.1.2.2.1.2
  have ka : jk μ a = 1 := hp.2.1.1.1
  obtain ⟨hf1, ht1⟩ := fs_at hf hjb hp
  have hg1 := pg_at hg hjb hp
  obtain ⟨t1, t2, t3, t4, t5⟩ := tk_at hf1 (ht1.trans ht) hA
  have bc : c < 2147483648 := by omega
  have lb : jl μ (fa μ f 0) < 2147483648 := by have := hf1.2.2.2.2.2.1; omega
  have hwid := (tkp_w hG hz hk).1
  have pre : ∀ x, jR (d + 8) 82 9 [.ref f, .ref a, .ref g, .int (N c)] [] μ = x → jR (d + 8) 82 9 [.ref f, .ref a, .ref g, .int (N c)] [] μ = x := fun _ h => h
  rw [b82_9 (h1 := ir_ref) (h2 := ir_ref)]
  simp only [aI_eq, aB_eq, aR_eq, sI_eq, sB_eq, sR_eq, Option.bind_some, Option.bind_none, if_true, if_false, true_or, or_true, false_or, or_false, true_and, and_true, false_and, and_false, decide_eq_true_eq, decide_true, decide_false, eq_self, not_true_eq_false, not_false_eq_true, jfit0, N_lit, N_add, N_mul, NEG_eq, pl_none, pl_some, rf_some, rf_none, jun_ref, jun_null, ir_ref, ir_null, jr_rf, jun_rf, Option.toList_some, Option.toList_none, List.nil_append, List.cons_append, gI5, gR5, pI5, pR5, rv5, hf1.1, hf1.r z4.1, hf1.r z4.2.1, hf1.r z4.2.2.1, hf1.k z4.1, hf1.k z4.2.1, hf1.k z4.2.2.1, hf1.2.2.2.1, hf1.2.2.2.2.1, alen_of (hf1.k z4.1) (by decide), N_lt bc lb, t1, jinb_N bc, N_nat bc, t3, t4, t5]
  rcases hk with ⟨v, hv, rfl⟩ | ⟨i, hi, rfl⟩ | hk
  · have et : tkp G (N 48, N v, N 0) = dec (N v) := by unfold tkp; rw [if_pos rfl]
    obtain ⟨μ', t', cap', r1, r2⟩ := ps_int (d := d + 2) (v := N v) hx hjb hp (by rw [← et]; omega)
    refine ⟨μ', t', cap', ?_, by rw [et]; exact r2.mono (by omega) (by omega)⟩
    simp only [if_true, gI1, gR1, pI1, pR1, rv1, ka, aI_eq, aB_eq, aR_eq, sI_eq, sB_eq, sR_eq, Option.bind_some, Option.bind_none, if_true, if_false, true_or, or_true, false_or, or_false, true_and, and_true, false_and, and_false, decide_eq_true_eq, decide_true, decide_false, eq_self, not_true_eq_false, not_false_eq_true, jfit0, N_lit, N_add, N_mul, NEG_eq, pl_none, pl_some, rf_some, rf_none, jun_ref, jun_null, ir_ref, ir_null, jr_rf, jun_rf, Option.toList_some, Option.toList_none, List.nil_append, List.cons_append, r1]
    rw [b82_70 (h1 := ir_ref) (h2 := ir_ref) (hs0 := ir_ref), b82_103 (h1 := ir_ref) (h2 := ir_ref)]
    simp only [aI_eq, aB_eq, aR_eq, sI_eq, sB_eq, sR_eq, Option.bind_some, Option.bind_none, if_true, if_false, true_or, or_true, false_or, or_false, true_and, and_true, false_and, and_false, decide_eq_true_eq, decide_true, decide_false, eq_self, not_true_eq_false, not_false_eq_true, jfit0, N_lit, N_add, N_mul, NEG_eq, pl_none, pl_some, rf_some, rf_none, jun_ref, jun_null, ir_ref, ir_null, jr_rf, jun_rf, Option.toList_some, Option.toList_none, List.nil_append, List.cons_append]
  · have e48 : ¬ (rT i).1 = N 48 := by
      rcases rT_fst (i := i) with e | e
      · rw [e]; decide
      · rw [e]; decide
    have e5 : (rT i).2.2 = N (i / 8) := rfl
    have t6 := d_placeOf (d := d + 7) hg1.1 (N (i / 8))
    rw [hg1.2] at t6
    obtain ⟨μ', t', cap', r1, r2⟩ := x_printRef (d := d + 1) hx hjb hf hz hG hp ht hA hi hm
    refine ⟨μ', t', cap', ?_, r2⟩
    have go : jR (d + 8) 82 87 [.ref f, .ref a, .ref g, .int (N c)] [.int (pl (lfind (N (i / 8)) G)), .int (N c), .ref a, .ref f] μ = jR (d + 8) 82 9 [.ref f, .ref a, .ref g, .int (N (c + 1))] [] μ' := by
      rw [b82_87 (h1 := ir_ref) (h2 := ir_ref) (hs0 := ir_ref) (hs1 := ir_ref)]
      simp only [gI5, gR5, pI5, pR5, rv5, aI_eq, aB_eq, aR_eq, sI_eq, sB_eq, sR_eq, Option.bind_some, Option.bind_none, if_true, if_false, true_or, or_true, false_or, or_false, true_and, and_true, false_and, and_false, decide_eq_true_eq, decide_true, decide_false, eq_self, not_true_eq_false, not_false_eq_true, jfit0, N_lit, N_add, N_mul, NEG_eq, pl_none, pl_some, rf_some, rf_none, jun_ref, jun_null, ir_ref, ir_null, jr_rf, jun_rf, Option.toList_some, Option.toList_none, List.nil_append, List.cons_append, hf1.1, r1]
      rw [b82_90 (h1 := ir_ref) (h2 := ir_ref), b82_103 (h1 := ir_ref) (h2 := ir_ref)]
      simp only [aI_eq, aB_eq, aR_eq, sI_eq, sB_eq, sR_eq, Option.bind_some, Option.bind_none, if_true, if_false, true_or, or_true, false_or, or_false, true_and, and_true, false_and, and_false, decide_eq_true_eq, decide_true, decide_false, eq_self, not_true_eq_false, not_false_eq_true, jfit0, N_lit, N_add, N_mul, NEG_eq, pl_none, pl_some, rf_some, rf_none, jun_ref, jun_null, ir_ref, ir_null, jr_rf, jun_rf, Option.toList_some, Option.toList_none, List.nil_append, List.cons_append]
    rw [if_neg e48]
    simp only [e5, rv6, hg1.1.2.1.1, aI_eq, aB_eq, aR_eq, sI_eq, sB_eq, sR_eq, Option.bind_some, Option.bind_none, if_true, if_false, true_or, or_true, false_or, or_false, true_and, and_true, false_and, and_false, decide_eq_true_eq, decide_true, decide_false, eq_self, not_true_eq_false, not_false_eq_true, jfit0, N_lit, N_add, N_mul, NEG_eq, pl_none, pl_some, rf_some, rf_none, jun_ref, jun_null, ir_ref, ir_null, jr_rf, jun_rf, Option.toList_some, Option.toList_none, List.nil_append, List.cons_append, t6]
    rcases rT_fst (i := i) with e3 | e3
    · rw [if_pos e3]; exact go
    · rw [if_neg (show ¬ (rT i).1 = N 114 by rw [e3]; decide), if_pos e3]; exact go
  · have hne : ¬ tk.1 = N 48 ∧ ¬ tk.1 = N 114 ∧ ¬ tk.1 = N 115 := by
      rcases hk with ⟨w, hw, rfl⟩ | ⟨k, hk, rfl⟩
      · obtain ⟨w1, w2, w3, w4, w5⟩ := wT_ne (w := w)
        exact ⟨fun g => by have g : wT w = N 48 := g; rw [w1] at g; exact g, fun g => by have g : wT w = N 114 := g; rw [w2] at g; exact g, fun g => by have g : wT w = N 115 := g; rw [w3] at g; exact g⟩
      · rcases hk with rfl | rfl | rfl | rfl | rfl | rfl | rfl
        all_goals exact ⟨by decide, by decide, by decide⟩
    obtain ⟨μ', t', cap', r1, r2⟩ := x_printSign (d := d) (G := G) hx hjb hp hk (by omega)
    refine ⟨μ', t', cap', ?_, r2.mono (by omega) (by omega)⟩
    rw [if_neg hne.1, if_neg hne.2.1, if_neg hne.2.2, r1]
    simp only [aI_eq, aB_eq, aR_eq, sI_eq, sB_eq, sR_eq, Option.bind_some, Option.bind_none, if_true, if_false, true_or, or_true, false_or, or_false, true_and, and_true, false_and, and_false, decide_eq_true_eq, decide_true, decide_false, eq_self, not_true_eq_false, not_false_eq_true, jfit0, N_lit, N_add, N_mul, NEG_eq, pl_none, pl_some, rf_some, rf_none, jun_ref, jun_null, ir_ref, ir_null, jr_rf, jun_rf, Option.toList_some, Option.toList_none, List.nil_append, List.cons_append]
    rw [b82_103 (h1 := ir_ref) (h2 := ir_ref)]
    simp only [aI_eq, aB_eq, aR_eq, sI_eq, sB_eq, sR_eq, Option.bind_some, Option.bind_none, if_true, if_false, true_or, or_true, false_or, or_false, true_and, and_true, false_and, and_false, decide_eq_true_eq, decide_true, decide_false, eq_self, not_true_eq_false, not_false_eq_true, jfit0, N_lit, N_add, N_mul, NEG_eq, pl_none, pl_some, rf_some, rf_none, jun_ref, jun_null, ir_ref, ir_null, jr_rf, jun_rf, Option.toList_some, Option.toList_none, List.nil_append, List.cons_append]
/-- a formula -/
theorem x_printTo (hx : KX μb B) (hjb : JW μb) (hg : PG μb D g G) (hf : FS μb D f) (hz : KZ G) (hp : PS μb n w μ a t cap []) (hk : ∀ x, x ∈ ftk μb f → tkOK x) (hw : ((ftk μb f).map tw).sum ≤ 39) : ∃ μ' t' cap', jC (d + 8) 82 [.ref f, .ref a, .ref g] μ = some (none, μ') ∧ PS μb (n + 121) (w + 9700) μ' a t' cap' (61 :: (ftk μb f).flatMap (tkp G)) := by
  have hG : G.length ≤ 8 := by rw [← hg.2, len_dG]; exact hg.1.2.2.1.2
  have ka : jk μ a = 1 := hp.2.1.1.1
  obtain ⟨μ1, t1, cap1, r1, r2⟩ := ps_char (d := d + 2) (c := 61) hx.1 hp (by decide) (by simp)
  have loop : ∀ (R A : List Tk) (μ1 : jM) (t1 cap1 n1 w1 : Nat) (s1 : List Nat), ftk μb f = A ++ R → PS μb n1 w1 μ1 a t1 cap1 s1 → s1.length + (R.map tw).sum ≤ 40 → ∃ μ' t' cap', jR (d + 8) 82 9 [.ref f, .ref a, .ref g, .int (N A.length)] [] μ1 = some (none, μ') ∧ PS μb (n1 + 3 * R.length) (w1 + 240 * R.length) μ' a t' cap' (s1 ++ R.flatMap (tkp G)) := by
    intro R
    induction R with
    | nil =>
      intro A μ1 t1 cap1 n1 w1 s1 hA h1 _
      obtain ⟨hf1, ht1⟩ := fs_at hf hjb h1
      have hl := len_fT (μ := μ1) (f := f)
      rw [ht1, hA, List.append_nil] at hl
      have h40 := hf1.2.2.2.2.2.1
      refine ⟨μ1, t1, cap1, ?_, by simpa using h1⟩
      rw [b82_9 (h1 := ir_ref) (h2 := ir_ref)]
      simp only [gI5, gR5, pI5, pR5, rv5, aI_eq, aB_eq, aR_eq, sI_eq, sB_eq, sR_eq, Option.bind_some, Option.bind_none, if_true, if_false, true_or, or_true, false_or, or_false, true_and, and_true, false_and, and_false, decide_eq_true_eq, decide_true, decide_false, eq_self, not_true_eq_false, not_false_eq_true, jfit0, N_lit, N_add, N_mul, NEG_eq, pl_none, pl_some, rf_some, rf_none, jun_ref, jun_null, ir_ref, ir_null, jr_rf, jun_rf, Option.toList_some, Option.toList_none, List.nil_append, List.cons_append, hf1.1, hf1.r z4.1, alen_of (hf1.k z4.1) (by decide), hl, N_lt (show jl μ1 (fa μ1 f 0) < 2147483648 by omega) (show jl μ1 (fa μ1 f 0) < 2147483648 by omega), Nat.lt_irrefl]
    | cons x R ih =>
      intro A μ1 t1 cap1 n1 w1 s1 hA h1 hs
      simp only [List.map_cons, List.sum_cons] at hs
      have hkx : tkOK x := hk x (by rw [hA]; simp)
      obtain ⟨μ2, t2, cap2, q1, q2⟩ := x_printTok (d := d) hx hjb hg hf hz h1 hA rfl hkx (by omega)
      have hwx := (tkp_w hG hz hkx).1
      obtain ⟨μ3, t3, cap3, q3, q4⟩ := ih (A ++ [x]) μ2 t2 cap2 _ _ _ (by rw [hA]; simp) q2 (by rw [List.length_append]; omega)
      refine ⟨μ3, t3, cap3, ?_, ?_⟩
      · rw [q1]
        rw [List.length_append] at q3
        exact q3
      · rw [List.flatMap_cons, ← List.append_assoc]
        exact q4.mono (by rw [List.length_cons]; omega) (by rw [List.length_cons]; omega)
  obtain ⟨μ2, t2, cap2, q1, q2⟩ := loop (ftk μb f) [] μ1 t1 cap1 _ _ _ rfl r2 (by simp only [List.nil_append, List.length_cons, List.length_nil]; omega)
  have hlen := len_tw (ftk μb f)
  refine ⟨μ2, t2, cap2, ?_, q2.mono (by omega) (by omega)⟩
  rw [jC_run (by decide)]
  show jR (d + 8) 82 0 [.ref f, .ref a, .ref g, .retAddr 0] [] μ = _
  rw [b82_0 (h1 := ir_ref) (h2 := ir_ref)]
  simp only [gI1, gR1, pI1, pR1, rv1, aI_eq, aB_eq, aR_eq, sI_eq, sB_eq, sR_eq, Option.bind_some, Option.bind_none, if_true, if_false, true_or, or_true, false_or, or_false, true_and, and_true, false_and, and_false, decide_eq_true_eq, decide_true, decide_false, eq_self, not_true_eq_false, not_false_eq_true, jfit0, N_lit, N_add, N_mul, NEG_eq, pl_none, pl_some, rf_some, rf_none, jun_ref, jun_null, ir_ref, ir_null, jr_rf, jun_rf, Option.toList_some, Option.toList_none, List.nil_append, List.cons_append, ka, r1]
  rw [b82_6 (h1 := ir_ref) (h2 := ir_ref) (hs0 := ir_ref)]
  exact q1
end PRN2
