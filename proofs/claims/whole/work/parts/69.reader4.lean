/-! THE READER: a text whole, and its formula -/
def pTx (ky : Nat → Nat) (ts : List T3) : Bool × List T3 × Nat × Int32 × Ex :=
  if hk ts = 0 then (true, ts, 0, N 0, .natCast 0)
  else if hk ts = 61 then ((pP ky 200 2 0 (.natCast 0) ts.tail).1 && decide (hk (pP ky 200 2 0 (.natCast 0) ts.tail).2.1 = 0), (pP ky 200 2 0 (.natCast 0) ts.tail).2.1, 2, N 0, (pP ky 200 2 0 (.natCast 0) ts.tail).2.2)
  else if hk ts = 45 then (if hk ts.tail = 48 then (decide (hk ts.tail.tail = 0), ts.tail.tail, 1, -(N (hf ts.tail)), .natCast 0) else (false, ts.tail, 1, N 0, .natCast 0))
  else (if hk ts = 48 then (decide (hk ts.tail = 0), ts.tail, 1, N (hf ts), .natCast 0) else (false, ts, 1, N 0, .natCast 0))
def RF (q : Nat) (μ μ' : jM) : Prop := Fx (fun a => q ≤ a ∧ a < q + 10) (fun a j => a = q + 5 ∧ j = 1) μ μ'
section TEXT
variable {μ μ' μ'' μ1 : jM} {q D g d p p' k w c s n B : Nat} {G : DG} {L ts : List T3} {T T' : List Tk} {O O' : List Nat} {ok : Bool} {e : Ex} {bs : List Nat}
theorem PF.rf (F : PF q μ μ') : RF q μ μ' := F.1.mono (fun a g => by
  have g : a = q ∨ (q + 5 ≤ a ∧ a < q + 10) := g
  show q ≤ a ∧ a < q + 10; omega) (fun _ _ g => g.elim)
theorem RF.trans (a : RF q μ μ') (b : RF q μ' μ'') : RF q μ μ'' := Fx.trans a b
/-- a number of the reader set -/
theorem PZ.set {j : Nat} {v : Int32} (h : PZ μ q D g G L p) : PZ (jsetI μ (q + 5) j v) q D g G L p ∧ RF q μ (jsetI μ (q + 5) j v) := by
  have F : Fx (fun a => a = q ∨ (q + 5 ≤ a ∧ a < q + 10)) (fun _ _ => False) μ (jsetI μ (q + 5) j v) := by
    refine Fx.setI Fx.refl ?_
    show _ ∨ _; omega
  refine ⟨h.frx F ?_, F.mono (fun a g => ?_) (fun _ _ g => g.elim)⟩
  · rw [iv_setIn (by omega)]; exact h.at
  · have g : a = q ∨ (q + 5 ≤ a ∧ a < q + 10) := g
    show q ≤ a ∧ a < q + 10; omega
theorem x_readNumber (hL : GTS L) (h41 : L.length ≤ 41) (h : PZ μ q D g G L p) (hp : p < L.length) : ∃ μ', jC (d + 1) 158 [.ref (q + 5)] μ = some (some (.int (bN (if hk (L.drop p) = 45 then decide (hk (L.drop p).tail = 48) else decide (hk (L.drop p) = 48)))), μ') ∧ RF q μ μ' ∧ jiv μ' (q + 5) 2 = jiv μ (q + 5) 2 ∧ ∃ p', p' < L.length ∧ L.drop p' = (if hk (L.drop p) = 45 then (if hk (L.drop p).tail = 48 then (L.drop p).tail.tail else (L.drop p).tail) else if hk (L.drop p) = 48 then (L.drop p).tail else L.drop p) ∧ PZ μ' q D g G L p' ∧ ((if hk (L.drop p) = 45 then decide (hk (L.drop p).tail = 48) else decide (hk (L.drop p) = 48)) = true → jiv μ' (q + 5) 3 = if hk (L.drop p) = 45 then -(N (hf (L.drop p).tail)) else N (hf (L.drop p))) := by
  -- from the digits on
  have go : ∀ (μ1 : jM) (p1 : Nat) (b : Bool), PZ μ1 q D g G L p1 → p1 < L.length → ∃ μ', jR (d + 1) 158 29 [.ref (q + 5), .int (bN b)] [] μ1 = some (some (.int (bN (decide (hk (L.drop p1) = 48)))), μ') ∧ RF q μ1 μ' ∧ jiv μ' (q + 5) 2 = jiv μ1 (q + 5) 2 ∧ ∃ p', p' < L.length ∧ L.drop p' = (if hk (L.drop p1) = 48 then (L.drop p1).tail else L.drop p1) ∧ PZ μ' q D g G L p' ∧ (decide (hk (L.drop p1) = 48) = true → jiv μ' (q + 5) 3 = if b = true then -(N (hf (L.drop p1))) else N (hf (L.drop p1))) := by
    intro μ1 p1 b h1 hp1
    rw [b158_29]
    simp only [gI11, gR11, pI11, pR11, rv11, gI10, gR10, pI10, pR10, rv10, aI_eq, aB_eq, aR_eq, sI_eq, sB_eq, sR_eq, Option.bind_some, Option.bind_none, if_true, if_false, true_or, or_true, false_or, or_false, true_and, and_true, false_and, and_false, decide_eq_true_eq, decide_true, decide_false, eq_self, not_true_eq_false, not_false_eq_true, jfit0, N_lit, N_add, N_mul, NEG_eq, pl_none, pl_some, rf_some, rf_none, jun_ref, jun_null, ir_ref, ir_null, jr_rf, jun_rf, Option.toList_some, Option.toList_none, List.nil_append, List.cons_append, h1.k0, h1.r0, x_token h1 hp1 h41]
    rw [b158_36]
    simp only [N_lit, hkN hL hp1 (show 48 < 256 by decide)]
    by_cases e : hk (L.drop p1) = 48
    · have hm := more hL hp1 (by omega)
      obtain ⟨z2, F2⟩ := h1.set (j := 3) (v := if b = true then -(N (hf (L.drop p1))) else N (hf (L.drop p1)))
      obtain ⟨z3, F3⟩ := z2.adv
      refine ⟨jsetI (jsetI μ1 (q + 5) 3 (if b = true then -(N (hf (L.drop p1))) else N (hf (L.drop p1)))) q 6 (N (p1 + 1)), ?_, F2.trans F3.rf, ?_, p1 + 1, hm, ?_, z3, fun _ => ?_⟩
      · have ha := x_advance (d := d) z2.k0 z2.at (show p1 < 40 by omega)
        rw [if_pos e, decide_eq_true e]
        cases b with
        | true =>
          simp only [if_true] at ha ⊢
          simp only [bN_true, n10, if_false, gI11, gR11, pI11, pR11, rv11, gI10, gR10, pI10, pR10, rv10, aI_eq, aB_eq, aR_eq, sI_eq, sB_eq, sR_eq, Option.bind_some, Option.bind_none, if_true, if_false, true_or, or_true, false_or, or_false, true_and, and_true, false_and, and_false, decide_eq_true_eq, decide_true, decide_false, eq_self, not_true_eq_false, not_false_eq_true, jfit0, N_lit, N_add, N_mul, NEG_eq, pl_none, pl_some, rf_some, rf_none, jun_ref, jun_null, ir_ref, ir_null, jr_rf, jun_rf, Option.toList_some, Option.toList_none, List.nil_append, List.cons_append, h1.k0, h1.r0, x_figure h1 hp1 h41, b158_55, b158_66, jk_setI, rv_setI, ha, b158_76]
        | false =>
          simp only [Bool.false_eq_true, if_false] at ha ⊢
          simp only [bN_true, bN_false, if_true, gI11, gR11, pI11, pR11, rv11, gI10, gR10, pI10, pR10, rv10, aI_eq, aB_eq, aR_eq, sI_eq, sB_eq, sR_eq, Option.bind_some, Option.bind_none, if_true, if_false, true_or, or_true, false_or, or_false, true_and, and_true, false_and, and_false, decide_eq_true_eq, decide_true, decide_false, eq_self, not_true_eq_false, not_false_eq_true, jfit0, N_lit, N_add, N_mul, NEG_eq, pl_none, pl_some, rf_some, rf_none, jun_ref, jun_null, ir_ref, ir_null, jr_rf, jun_rf, Option.toList_some, Option.toList_none, List.nil_append, List.cons_append, h1.k0, h1.r0, x_figure h1 hp1 h41, b158_66, jk_setI, rv_setI, ha, b158_76]
      · simp [iv_setI]
      · rw [if_pos e, drop_tl]
      · simp [iv_setI]
    · rw [if_neg e, decide_eq_false e]
      exact ⟨μ1, rfl, Fx.refl, rfl, p1, hp1, by rw [if_neg e], h1, fun g => absurd g (by simp [e])⟩
  rw [jC_run (by decide)]
  show ∃ μ', jR (d + 1) 158 0 [.ref (q + 5), .retAddr 0] [] μ = _ ∧ _
  rw [b158_0]
  simp only [gI11, gR11, pI11, pR11, rv11, gI10, gR10, pI10, pR10, rv10, aI_eq, aB_eq, aR_eq, sI_eq, sB_eq, sR_eq, Option.bind_some, Option.bind_none, if_true, if_false, true_or, or_true, false_or, or_false, true_and, and_true, false_and, and_false, decide_eq_true_eq, decide_true, decide_false, eq_self, not_true_eq_false, not_false_eq_true, jfit0, N_lit, N_add, N_mul, NEG_eq, pl_none, pl_some, rf_some, rf_none, jun_ref, jun_null, ir_ref, ir_null, jr_rf, jun_rf, Option.toList_some, Option.toList_none, List.nil_append, List.cons_append, h.k0, h.r0, x_token h hp h41]
  rw [b158_7]
  simp only [N_lit, hkN hL hp (show 45 < 256 by decide)]
  by_cases e : hk (L.drop p) = 45
  · have hm := more hL hp (by omega)
    obtain ⟨z1, F1⟩ := h.adv
    obtain ⟨μ', r1, r2, r3, p', r4, r5, r6, r7⟩ := go (jsetI μ q 6 (N (p + 1))) (p + 1) true z1 hm
    rw [drop_tl] at r1 r5 r7
    have hb := x_advance (d := d) h.k0 h.at (show p < 40 by omega)
    refine ⟨μ', ?_, F1.rf.trans r2, r3.trans ?_, p', r4, ?_, r6, fun g => ?_⟩
    · simp only [if_pos e, b158_17, n10, if_false, gI11, gR11, pI11, pR11, rv11, gI10, gR10, pI10, pR10, rv10, aI_eq, aB_eq, aR_eq, sI_eq, sB_eq, sR_eq, Option.bind_some, Option.bind_none, if_true, if_false, true_or, or_true, false_or, or_false, true_and, and_true, false_and, and_false, decide_eq_true_eq, decide_true, decide_false, eq_self, not_true_eq_false, not_false_eq_true, jfit0, N_lit, N_add, N_mul, NEG_eq, pl_none, pl_some, rf_some, rf_none, jun_ref, jun_null, ir_ref, ir_null, jr_rf, jun_rf, Option.toList_some, Option.toList_none, List.nil_append, List.cons_append, h.k0, h.r0, hb]
      exact r1
    · rw [iv_setIn (by omega)]
    · rw [if_pos e]; exact r5
    · rw [if_pos e] at g ⊢; exact r7 g
  · obtain ⟨μ', r1, r2, r3, p', r4, r5, r6, r7⟩ := go μ p false h hp
    refine ⟨μ', ?_, r2, r3, p', r4, ?_, r6, fun g => ?_⟩
    · simp only [if_neg e, b158_17, if_true]
      exact r1
    · rw [if_neg e]; exact r5
    · rw [if_neg e] at g ⊢; exact r7 g
theorem x_read (hK : KK G) (hx : KX μ B) (hj : JW μ) (hB : B ≤ q) (hq : TQ μ q) (hb : TB μ q bs) (hr : RQ μ q) (hg : GV μ D g) (hG : dG μ (xA g) = G) (hD : q + 10 ≤ D) (hd : g + 6 ≤ q ∨ q + 10 ≤ g) : ∃ μ', jC (d + 23) 147 [.ref (q + 5), .ref g] μ = some (some (.int (bN (pTx (kyG G) (lexx 40 0 bs)).1)), μ') ∧ RF q μ μ' ∧ (∃ p, p < (lexx 40 0 bs).length ∧ (lexx 40 0 bs).drop p = (pTx (kyG G) (lexx 40 0 bs)).2.1 ∧ PZ μ' q D g G (lexx 40 0 bs) p) ∧ ((pTx (kyG G) (lexx 40 0 bs)).1 = true → jiv μ' (q + 5) 2 = N (pTx (kyG G) (lexx 40 0 bs)).2.2.1 ∧ jiv μ' (q + 5) 3 = (pTx (kyG G) (lexx 40 0 bs)).2.2.2.1 ∧ ((pTx (kyG G) (lexx 40 0 bs)).2.2.1 = 2 → PT μ' q (tks (pTx (kyG G) (lexx 40 0 bs)).2.2.2.2) (ords 0 (pTx (kyG G) (lexx 40 0 bs)).2.2.2.2))) := by
  have hL := (gts_lexx 40 0 bs (by have := hb.2.1; omega)).1
  have h41 := lexx_len 40 0 bs
  have hp0 : 0 < (lexx 40 0 bs).length := List.length_pos_iff.mpr hL.1
  have r0 := hr.1.1
  -- laid
  have F0 : RF q μ (jsetI (jsetI (jsetI (jsetR μ (q + 5) 1 (some g)) (q + 5) 3 (N 0)) (q + 5) 7 (N 0)) (q + 5) 9 (N 0)) := by
    refine Fx.setI (Fx.setI (Fx.setI (Fx.setR Fx.refl ?_) ?_) ?_) ?_
    · show q + 5 = q + 5 ∧ 1 = 1; exact ⟨rfl, rfl⟩
    · show q ≤ q + 5 ∧ q + 5 < q + 10; omega
    · show q ≤ q + 5 ∧ q + 5 < q + 10; omega
    · show q ≤ q + 5 ∧ q + 5 < q + 10; omega
  have pre : jC (d + 23) 147 [.ref (q + 5), .ref g] μ = (jC (d + 22) 132 [.ref q] (jsetI (jsetI (jsetI (jsetR μ (q + 5) 1 (some g)) (q + 5) 3 (N 0)) (q + 5) 7 (N 0)) (q + 5) 9 (N 0))).bind fun p6 => jR (d + 23) 147 27 [.ref (q + 5), .ref g] (p6.1.toList ++ []) p6.2 := by
    rw [jC_run (by decide)]
    show jR (d + 23) 147 0 [.ref (q + 5), .ref g] [] μ = _
    have e0 : jrv (jsetR μ (q + 5) 1 (some g)) (q + 5) 0 = some q := by simp [rv_setR]; exact hr.2.1
    rw [b147_0 (h1 := ir_ref)]
    simp only [gI11, gR11, pI11, pR11, rv11, gI10, gR10, pI10, pR10, rv10, aI_eq, aB_eq, aR_eq, sI_eq, sB_eq, sR_eq, Option.bind_some, Option.bind_none, if_true, if_false, true_or, or_true, false_or, or_false, true_and, and_true, false_and, and_false, decide_eq_true_eq, decide_true, decide_false, eq_self, not_true_eq_false, not_false_eq_true, jfit0, N_lit, N_add, N_mul, NEG_eq, pl_none, pl_some, rf_some, rf_none, jun_ref, jun_null, ir_ref, ir_null, jr_rf, jun_rf, Option.toList_some, Option.toList_none, List.nil_append, List.cons_append, jk_setI, jk_setR, rv_setI, r0, e0, hq.1.1]
  have qq : TQ (jsetI (jsetI (jsetI (jsetR μ (q + 5) 1 (some g)) (q + 5) 3 (N 0)) (q + 5) 7 (N 0)) (q + 5) 9 (N 0)) q := by
    unfold TQ
    simp only [jk_setI, jk_setR, jl_setI, jl_setR, rv_setI, rv_setRn (show ¬ q = q + 5 by omega)]
    exact hq
  have qb : TB (jsetI (jsetI (jsetI (jsetR μ (q + 5) 1 (some g)) (q + 5) 3 (N 0)) (q + 5) 7 (N 0)) (q + 5) 9 (N 0)) q bs := hb.fr (by simp [iv_setI, iv_setR]) (by funext j; simp [iv_setI, iv_setR])
  have qr : RQ (jsetI (jsetI (jsetI (jsetR μ (q + 5) 1 (some g)) (q + 5) 3 (N 0)) (q + 5) 7 (N 0)) (q + 5) 9 (N 0)) q := by
    unfold RQ
    simp [jk_setI, jk_setR, jl_setI, jl_setR, rv_setI, rv_setR]
    exact hr
  have qn : jrv (jsetI (jsetI (jsetI (jsetR μ (q + 5) 1 (some g)) (q + 5) 3 (N 0)) (q + 5) 7 (N 0)) (q + 5) 9 (N 0)) (q + 5) 1 = some g := by simp [rv_setI, rv_setR]
  have q3 : jiv (jsetI (jsetI (jsetI (jsetR μ (q + 5) 1 (some g)) (q + 5) 3 (N 0)) (q + 5) 7 (N 0)) (q + 5) 9 (N 0)) (q + 5) 3 = N 0 := by simp [iv_setI]
  have q7 : jiv (jsetI (jsetI (jsetI (jsetR μ (q + 5) 1 (some g)) (q + 5) 3 (N 0)) (q + 5) 7 (N 0)) (q + 5) 9 (N 0)) (q + 5) 7 = N 0 := by simp [iv_setI]
  have q9 : jiv (jsetI (jsetI (jsetI (jsetR μ (q + 5) 1 (some g)) (q + 5) 3 (N 0)) (q + 5) 7 (N 0)) (q + 5) 9 (N 0)) (q + 5) 9 = N 0 := by simp [iv_setI]
  generalize jsetI (jsetI (jsetI (jsetR μ (q + 5) 1 (some g)) (q + 5) 3 (N 0)) (q + 5) 7 (N 0)) (q + 5) 9 (N 0) = μ0 at *
  obtain ⟨hg0, hG0⟩ := hg.outx F0 (fun a ha => by
    have ha : q ≤ a ∧ a < q + 10 := ha
    omega) (fun a j ha => by
    have ha : a = q + 5 ∧ j = 1 := ha
    omega)
  have hx0 := hx.fx hj F0 (fun b hb g => by
    have g : q ≤ b ∧ b < q + 10 := g
    omega) (fun b j hb g => by
    have g : b = q + 5 ∧ j = 1 := g
    omega)
  have hj0 := (Fx.fa F0 hj).jw
  obtain ⟨μ1, f1, f2, f3, f4, f5⟩ := x_findTokens (d := d + 15) hx0 hj0 hB qq qb
  obtain ⟨hg1, hG1⟩ := hg0.outx f2 (fun a ha => by
    have ha : q ≤ a ∧ a < q + 5 := ha
    omega) (fun _ _ g => g.elim)
  have z1 : PZ μ1 q D g G (lexx 40 0 bs) 0 := by
    refine ⟨qq.fr f2, ?_, f3, by rw [f2.rv]; exact qn, hg1, (hG1.trans hG0).trans hG, hD, hd, f4⟩
    unfold RQ
    simp only [f2.kk, f2.ll, f2.rv]; exact qr
  have i5 : jiv μ1 (q + 5) = jiv μ0 (q + 5) := f2.iv (by show ¬ (q ≤ q + 5 ∧ q + 5 < q + 5); omega)
  have t1 : PT μ1 q [] [] := ⟨by rw [i5]; exact q7, by rw [i5]; exact q9, fun i t hi => (by cases hi), fun i t hi => (by cases hi)⟩
  have n1 : jiv μ1 (q + 5) 3 = N 0 := by rw [i5]; exact q3
  have F1 : RF q μ μ1 := F0.trans (f2.mono (fun a g => by
    have g : q ≤ a ∧ a < q + 5 := g
    show q ≤ a ∧ a < q + 10; omega) (fun _ _ g => g.elim))
  have pre2 : jC (d + 23) 147 [.ref (q + 5), .ref g] μ = jR (d + 23) 147 34 [.ref (q + 5), .ref g] [.int (N (hk (lexx 40 0 bs)))] μ1 := by
    rw [pre, f1]
    simp only [aI_eq, aB_eq, aR_eq, sI_eq, sB_eq, sR_eq, Option.bind_some, Option.bind_none, if_true, if_false, true_or, or_true, false_or, or_false, true_and, and_true, false_and, and_false, decide_eq_true_eq, decide_true, decide_false, eq_self, not_true_eq_false, not_false_eq_true, jfit0, N_lit, N_add, N_mul, NEG_eq, pl_none, pl_some, rf_some, rf_none, jun_ref, jun_null, ir_ref, ir_null, jr_rf, jun_rf, Option.toList_some, Option.toList_none, List.nil_append, List.cons_append]
    rw [b147_27]
    have := x_token (d := d + 22) z1 hp0 h41
    rw [List.drop_zero] at this
    simp only [gI11, gR11, pI11, pR11, rv11, gI10, gR10, pI10, pR10, rv10, aI_eq, aB_eq, aR_eq, sI_eq, sB_eq, sR_eq, Option.bind_some, Option.bind_none, if_true, if_false, true_or, or_true, false_or, or_false, true_and, and_true, false_and, and_false, decide_eq_true_eq, decide_true, decide_false, eq_self, not_true_eq_false, not_false_eq_true, jfit0, N_lit, N_add, N_mul, NEG_eq, pl_none, pl_some, rf_some, rf_none, jun_ref, jun_null, ir_ref, ir_null, jr_rf, jun_rf, Option.toList_some, Option.toList_none, List.nil_append, List.cons_append, z1.k0, z1.r0, this]
  clear f1 pre qq qb qr qn q3 q7 q9 f2 f3 f4 f5 i5 hg0 hG0 hx0 hj0 hg1 hG1 F0
  rw [pre2]
  have hd0 : (lexx 40 0 bs).drop 0 = lexx 40 0 bs := List.drop_zero
  have e0 := hkN (p := 0) hL hp0 (show 0 < 256 by decide)
  have e61 := hkN (p := 0) hL hp0 (show 61 < 256 by decide)
  rw [hd0] at e0 e61
  rw [b147_34]
  simp only [N_lit, e0]
  unfold pTx
  by_cases c0 : hk (lexx 40 0 bs) = 0
  · simp only [if_pos c0]
    obtain ⟨z2, F2⟩ := z1.set (j := 2) (v := N 0)
    refine ⟨jsetI μ1 (q + 5) 2 (N 0), ?_, F1.trans F2, ⟨0, hp0, hd0, z2⟩, fun _ => ⟨by simp [iv_setI], by simp [iv_setI]; exact n1, fun g => by cases g⟩⟩
    simp only [gI11, gR11, pI11, pR11, rv11, aI_eq, aB_eq, aR_eq, sI_eq, sB_eq, sR_eq, Option.bind_some, Option.bind_none, if_true, if_false, true_or, or_true, false_or, or_false, true_and, and_true, false_and, and_false, decide_eq_true_eq, decide_true, decide_false, eq_self, not_true_eq_false, not_false_eq_true, jfit0, N_lit, N_add, N_mul, NEG_eq, pl_none, pl_some, rf_some, rf_none, jun_ref, jun_null, ir_ref, ir_null, jr_rf, jun_rf, Option.toList_some, Option.toList_none, List.nil_append, List.cons_append, z1.r0]; rfl
  · simp only [if_neg c0, gI11, gR11, pI11, pR11, rv11, gI10, gR10, pI10, pR10, rv10, aI_eq, aB_eq, aR_eq, sI_eq, sB_eq, sR_eq, Option.bind_some, Option.bind_none, if_true, if_false, true_or, or_true, false_or, or_false, true_and, and_true, false_and, and_false, decide_eq_true_eq, decide_true, decide_false, eq_self, not_true_eq_false, not_false_eq_true, jfit0, N_lit, N_add, N_mul, NEG_eq, pl_none, pl_some, rf_some, rf_none, jun_ref, jun_null, ir_ref, ir_null, jr_rf, jun_rf, Option.toList_some, Option.toList_none, List.nil_append, List.cons_append, z1.k0, z1.r0]
    have ht := x_token (d := d + 22) z1 hp0 h41
    rw [hd0] at ht
    simp only [ht, aI_eq, aB_eq, aR_eq, sI_eq, sB_eq, sR_eq, Option.bind_some, Option.bind_none, if_true, if_false, true_or, or_true, false_or, or_false, true_and, and_true, false_and, and_false, decide_eq_true_eq, decide_true, decide_false, eq_self, not_true_eq_false, not_false_eq_true, jfit0, N_lit, N_add, N_mul, NEG_eq, pl_none, pl_some, rf_some, rf_none, jun_ref, jun_null, ir_ref, ir_null, jr_rf, jun_rf, Option.toList_some, Option.toList_none, List.nil_append, List.cons_append]
    rw [b147_51]
    simp only [N_lit, e61]
    by_cases c61 : hk (lexx 40 0 bs) = 61
    · have hm := more (p := 0) hL hp0 (by rw [hd0]; omega)
      simp only [if_pos c61]
      obtain ⟨z2, F2⟩ := z1.set (j := 2) (v := N 2)
      have t2 : PT (jsetI μ1 (q + 5) 2 (N 2)) q [] [] := by
        obtain ⟨a1, a2, a3, a4⟩ := t1
        exact ⟨by simp [iv_setI]; exact a1, by simp [iv_setI]; exact a2, fun i t hi => (by cases hi), fun i t hi => (by cases hi)⟩
      have n2 : jiv (jsetI μ1 (q + 5) 2 (N 2)) (q + 5) 2 = N 2 ∧ jiv (jsetI μ1 (q + 5) 2 (N 2)) (q + 5) 3 = N 0 := ⟨by simp [iv_setI], by simp [iv_setI]; exact n1⟩
      simp only [z1.r0, gI11, gR11, pI11, pR11, rv11, gI10, gR10, pI10, pR10, rv10, aI_eq, aB_eq, aR_eq, sI_eq, sB_eq, sR_eq, Option.bind_some, Option.bind_none, if_true, if_false, true_or, or_true, false_or, or_false, true_and, and_true, false_and, and_false, decide_eq_true_eq, decide_true, decide_false, eq_self, not_true_eq_false, not_false_eq_true, jfit0, N_lit, N_add, N_mul, NEG_eq, pl_none, pl_some, rf_some, rf_none, jun_ref, jun_null, ir_ref, ir_null, jr_rf, jun_rf, Option.toList_some, Option.toList_none, List.nil_append, List.cons_append]
      generalize jsetI μ1 (q + 5) 2 (N 2) = μ2 at *
      obtain ⟨z3, F3⟩ := z2.adv
      have t3 := t2.adv (v := N (0 + 1))
      have n3 : jiv (jsetI μ2 q 6 (N (0 + 1))) (q + 5) = jiv μ2 (q + 5) := iv_setIn (by omega)
      simp only [z2.k0, z2.r0, gI11, gR11, pI11, pR11, rv11, gI10, gR10, pI10, pR10, rv10, x_advance z2.k0 z2.at (show 0 < 40 by decide), aI_eq, aB_eq, aR_eq, sI_eq, sB_eq, sR_eq, Option.bind_some, Option.bind_none, if_true, if_false, true_or, or_true, false_or, or_false, true_and, and_true, false_and, and_false, decide_eq_true_eq, decide_true, decide_false, eq_self, not_true_eq_false, not_false_eq_true, jfit0, N_lit, N_add, N_mul, NEG_eq, pl_none, pl_some, rf_some, rf_none, jun_ref, jun_null, ir_ref, ir_null, jr_rf, jun_rf, Option.toList_some, Option.toList_none, List.nil_append, List.cons_append]
      generalize jsetI μ2 q 6 (N (0 + 1)) = μ3 at *
      obtain ⟨-, -, i2, -, -⟩ := rd_all (q := q) (D := D) (g := g) hL h41 hK 200
      obtain ⟨μ4, r1, F4, p4, l4, d4, z4, t4⟩ := i2 (d + 22) 4 0 1 [] [] (.natCast 0) μ3 (by omega) (by omega) rfl hm z3 t3 (by simp) (by simp)
      rw [List.drop_one] at r1 d4 t4
      have r1 : jC (d + 22) 148 [.ref (q + 5), .int (N 0)] μ3 = _ := r1
      rw [b147_68]
      simp only [gI11, gR11, pI11, pR11, rv11, aI_eq, aB_eq, aR_eq, sI_eq, sB_eq, sR_eq, Option.bind_some, Option.bind_none, if_true, if_false, true_or, or_true, false_or, or_false, true_and, and_true, false_and, and_false, decide_eq_true_eq, decide_true, decide_false, eq_self, not_true_eq_false, not_false_eq_true, jfit0, N_lit, N_add, N_mul, NEG_eq, pl_none, pl_some, rf_some, rf_none, jun_ref, jun_null, ir_ref, ir_null, jr_rf, jun_rf, Option.toList_some, Option.toList_none, List.nil_append, List.cons_append, z3.r0, r1]
      rw [b147_73]
      generalize pP (kyG G) 200 2 0 (.natCast 0) (lexx 40 0 bs).tail = R at *
      have F := F1.trans (F2.trans (F3.rf.trans F4.rf))
      cases eR : R.1 with
      | false =>
        simp only [bN_false, if_true, b147_90, b147_91, N_lit, jrf40, Bool.false_and]
        exact ⟨μ4, rfl, F, ⟨p4, l4, d4, z4⟩, fun g => by cases g⟩
      | true =>
        obtain ⟨t4, -⟩ := t4 eR
        have hk4 := hkN hL l4 (show 0 < 256 by decide)
        simp only [bN_true, n10, if_false, gI11, gR11, pI11, pR11, rv11, gI10, gR10, pI10, pR10, rv10, aI_eq, aB_eq, aR_eq, sI_eq, sB_eq, sR_eq, Option.bind_some, Option.bind_none, if_true, if_false, true_or, or_true, false_or, or_false, true_and, and_true, false_and, and_false, decide_eq_true_eq, decide_true, decide_false, eq_self, not_true_eq_false, not_false_eq_true, jfit0, N_lit, N_add, N_mul, NEG_eq, pl_none, pl_some, rf_some, rf_none, jun_ref, jun_null, ir_ref, ir_null, jr_rf, jun_rf, Option.toList_some, Option.toList_none, List.nil_append, List.cons_append, z4.k0, z4.r0, x_token z4 l4 h41, Bool.true_and]
        rw [b147_83]
        simp only [N_lit, hk4]
        rw [d4]
        by_cases c1 : hk R.2.1 = 0
        · simp only [if_pos c1, b147_91, N_lit, jrf41, if_true, decide_eq_true c1]
          refine ⟨μ4, rfl, F, ⟨p4, l4, d4, z4⟩, fun _ => ⟨?_, ?_, fun _ => ?_⟩⟩
          · rw [F4.2.1, n3]; exact n2.1
          · rw [F4.2.2, n3]; exact n2.2
          · exact t4
        · simp only [if_neg c1, b147_90, b147_91, N_lit, jrf40, if_true, decide_eq_false c1]
          exact ⟨μ4, rfl, F, ⟨p4, l4, d4, z4⟩, fun g => absurd g (by simp [c1])⟩
    · simp only [if_neg c61]
      obtain ⟨z2, F2⟩ := z1.set (j := 2) (v := N 1)
      have n2 : jiv (jsetI μ1 (q + 5) 2 (N 1)) (q + 5) 2 = N 1 := by simp [iv_setI]
      simp only [z1.r0, gI11, gR11, pI11, pR11, rv11, gI10, gR10, pI10, pR10, rv10, aI_eq, aB_eq, aR_eq, sI_eq, sB_eq, sR_eq, Option.bind_some, Option.bind_none, if_true, if_false, true_or, or_true, false_or, or_false, true_and, and_true, false_and, and_false, decide_eq_true_eq, decide_true, decide_false, eq_self, not_true_eq_false, not_false_eq_true, jfit0, N_lit, N_add, N_mul, NEG_eq, pl_none, pl_some, rf_some, rf_none, jun_ref, jun_null, ir_ref, ir_null, jr_rf, jun_rf, Option.toList_some, Option.toList_none, List.nil_append, List.cons_append]
      generalize jsetI μ1 (q + 5) 2 (N 1) = μ2 at *
      obtain ⟨μ3, r1, F3, k3, p3, l3, d3, z3, v3⟩ := x_readNumber (d := d + 21) hL h41 z2 hp0
      rw [hd0] at r1 d3 v3
      simp only [z2.r0, r1, aI_eq, aB_eq, aR_eq, sI_eq, sB_eq, sR_eq, Option.bind_some, Option.bind_none, if_true, if_false, true_or, or_true, false_or, or_false, true_and, and_true, false_and, and_false, decide_eq_true_eq, decide_true, decide_false, eq_self, not_true_eq_false, not_false_eq_true, jfit0, N_lit, N_add, N_mul, NEG_eq, pl_none, pl_some, rf_some, rf_none, jun_ref, jun_null, ir_ref, ir_null, jr_rf, jun_rf, Option.toList_some, Option.toList_none, List.nil_append, List.cons_append]
      rw [b147_101]
      have F := F1.trans (F2.trans F3)
      have hk3 := hkN hL l3 (show 0 < 256 by decide)
      have ht3 := x_token (d := d + 22) z3 l3 h41
      rw [d3] at ht3 hk3
      by_cases c45 : hk (lexx 40 0 bs) = 45
      · simp only [if_pos c45] at d3 v3 ht3 hk3 ⊢
        by_cases c48 : hk (lexx 40 0 bs).tail = 48
        · simp only [if_pos c48, decide_eq_true c48] at d3 v3 ht3 hk3 ⊢
          simp only [bN_true, n10, if_false, gI11, gR11, pI11, pR11, rv11, gI10, gR10, pI10, pR10, rv10, aI_eq, aB_eq, aR_eq, sI_eq, sB_eq, sR_eq, Option.bind_some, Option.bind_none, if_true, if_false, true_or, or_true, false_or, or_false, true_and, and_true, false_and, and_false, decide_eq_true_eq, decide_true, decide_false, eq_self, not_true_eq_false, not_false_eq_true, jfit0, N_lit, N_add, N_mul, NEG_eq, pl_none, pl_some, rf_some, rf_none, jun_ref, jun_null, ir_ref, ir_null, jr_rf, jun_rf, Option.toList_some, Option.toList_none, List.nil_append, List.cons_append, z3.k0, z3.r0, ht3]
          rw [b147_111]
          simp only [N_lit, hk3]
          by_cases c1 : hk (lexx 40 0 bs).tail.tail = 0
          · simp only [if_pos c1, b147_119, N_lit, jrf41, if_true, decide_eq_true c1]
            exact ⟨μ3, rfl, F, ⟨p3, l3, d3, z3⟩, fun _ => ⟨k3.trans n2, v3 trivial, fun g => by cases g⟩⟩
          · simp only [if_neg c1, b147_118, b147_119, N_lit, jrf40, if_true, decide_eq_false c1]
            exact ⟨μ3, rfl, F, ⟨p3, l3, d3, z3⟩, fun g => absurd g (by simp [c1])⟩
        · simp only [if_neg c48, decide_eq_false c48] at d3 ht3 hk3 ⊢
          simp only [bN_false, if_true, b147_118, b147_119, N_lit, jrf40]
          exact ⟨μ3, rfl, F, ⟨p3, l3, d3, z3⟩, fun g => by cases g⟩
      · simp only [if_neg c45] at d3 v3 ht3 hk3 ⊢
        by_cases c48 : hk (lexx 40 0 bs) = 48
        · simp only [if_pos c48, decide_eq_true c48] at d3 v3 ht3 hk3 ⊢
          simp only [bN_true, n10, if_false, gI11, gR11, pI11, pR11, rv11, gI10, gR10, pI10, pR10, rv10, aI_eq, aB_eq, aR_eq, sI_eq, sB_eq, sR_eq, Option.bind_some, Option.bind_none, if_true, if_false, true_or, or_true, false_or, or_false, true_and, and_true, false_and, and_false, decide_eq_true_eq, decide_true, decide_false, eq_self, not_true_eq_false, not_false_eq_true, jfit0, N_lit, N_add, N_mul, NEG_eq, pl_none, pl_some, rf_some, rf_none, jun_ref, jun_null, ir_ref, ir_null, jr_rf, jun_rf, Option.toList_some, Option.toList_none, List.nil_append, List.cons_append, z3.k0, z3.r0, ht3]
          rw [b147_111]
          simp only [N_lit, hk3]
          by_cases c1 : hk (lexx 40 0 bs).tail = 0
          · simp only [if_pos c1, b147_119, N_lit, jrf41, if_true, decide_eq_true c1]
            exact ⟨μ3, rfl, F, ⟨p3, l3, d3, z3⟩, fun _ => ⟨k3.trans n2, v3 trivial, fun g => by cases g⟩⟩
          · simp only [if_neg c1, b147_118, b147_119, N_lit, jrf40, if_true, decide_eq_false c1]
            exact ⟨μ3, rfl, F, ⟨p3, l3, d3, z3⟩, fun g => absurd g (by simp [c1])⟩
        · simp only [if_neg c48, decide_eq_false c48] at d3 ht3 hk3 ⊢
          simp only [bN_false, if_true, b147_118, b147_119, N_lit, jrf40]
          exact ⟨μ3, rfl, F, ⟨p3, l3, d3, z3⟩, fun g => by cases g⟩
end TEXT
