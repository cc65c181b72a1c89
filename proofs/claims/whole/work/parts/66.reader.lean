/-! THE READER: refs and ranges read off the tape's tokens -/
def RQ (μ : jM) (q : Nat) : Prop := (jk μ (q + 5) = 11 ∧ jk μ (q + 6) = 20 ∧ jl μ (q + 6) = 40 ∧ jk μ (q + 7) = 20 ∧ jl μ (q + 7) = 40 ∧ jk μ (q + 8) = 20 ∧ jl μ (q + 8) = 40 ∧ jk μ (q + 9) = 20 ∧ jl μ (q + 9) = 40) ∧ jrv μ (q + 5) 0 = some q ∧ jrv μ (q + 5) 4 = some (q + 6) ∧ jrv μ (q + 5) 5 = some (q + 7) ∧ jrv μ (q + 5) 6 = some (q + 8) ∧ jrv μ (q + 5) 8 = some (q + 9)
/-- what a reading may change -/
def PF (q : Nat) (μ μ' : jM) : Prop := Fx (fun a => a = q ∨ (q + 5 ≤ a ∧ a < q + 10)) (fun _ _ => False) μ μ' ∧ jiv μ' (q + 5) 2 = jiv μ (q + 5) 2 ∧ jiv μ' (q + 5) 3 = jiv μ (q + 5) 3
/-- the tape at token p, and the grid that is written -/
def PZ (μ : jM) (q D g : Nat) (G : DG) (L : List T3) (p : Nat) : Prop := TQ μ q ∧ RQ μ q ∧ TL μ q L ∧ jrv μ (q + 5) 1 = some g ∧ GV μ D g ∧ dG μ (xA g) = G ∧ q + 10 ≤ D ∧ (g + 6 ≤ q ∨ q + 10 ≤ g) ∧ jiv μ q 6 = N p
/-- the tokens and the order so far -/
def PT (μ : jM) (q : Nat) (T : List Tk) (O : List Nat) : Prop := jiv μ (q + 5) 7 = N T.length ∧ jiv μ (q + 5) 9 = N O.length ∧ (∀ i t, T[i]? = some t → jiv μ (q + 6) i = t.1 ∧ jiv μ (q + 7) i = t.2.1 ∧ jiv μ (q + 8) i = t.2.2) ∧ ∀ i o, O[i]? = some o → jiv μ (q + 9) i = N o
/-- behind a piece of reading -/
def PE (μ μ' : jM) (q D g : Nat) (G : DG) (L : List T3) (ok : Bool) (ts : List T3) (T : List Tk) (O : List Nat) : Prop := PF q μ μ' ∧ ∃ p, p < L.length ∧ L.drop p = ts ∧ PZ μ' q D g G L p ∧ (ok = true → PT μ' q T O ∧ T.length ≤ p)
/-- the keys are good ones -/
def KK (G : DG) : Prop := ∀ w, w ∈ G → ∃ k, 1 ≤ k ∧ k < 100 ∧ w.1 = N k
def kyG (G : DG) (v : Nat) : Nat := if v = 0 then 0 else (keyO G (v - 1)).toNatClampNeg
theorem KK.kz {G : DG} (h : KK G) : KZ G := by
  intro w hw e
  obtain ⟨k, h1, h2, h3⟩ := h w hw
  rw [h3, N_inj (by omega) (by decide)] at e
  omega
theorem kyG_N {G : DG} (h : KK G) (i : Nat) : ∃ k, k < 100 ∧ keyO G i = N k := by
  unfold keyO
  cases e : G[i]? with
  | none => exact ⟨0, by decide, rfl⟩
  | some w =>
    obtain ⟨k, h1, h2, h3⟩ := h w (List.mem_of_getElem? e)
    exact ⟨k, h2, h3⟩
theorem kyG_lt {G : DG} (h : KK G) (v : Nat) : kyG G v < 100 := by
  unfold kyG
  split
  · decide
  · obtain ⟨k, h1, h2⟩ := kyG_N h (v - 1)
    rw [h2, N_nat (by omega)]; exact h1
theorem GTS.drop {L : List T3} (h : GTS L) {p : Nat} (hp : p < L.length) : GTS (L.drop p) := by
  obtain ⟨h1, h2, h3⟩ := h
  refine ⟨fun e => ?_, fun i x hx => ?_, fun i x y hx hy => ?_⟩
  · have := congrArg List.length e
    rw [List.length_drop, List.length_nil] at this; omega
  · rw [List.getElem?_drop] at hx
    have := h2 _ x hx
    refine ⟨this.1.trans ?_, this.2⟩
    rw [List.length_drop]
    exact ⟨fun g => by omega, fun g => by omega⟩
  · rw [List.getElem?_drop] at hx hy
    exact h3 (p + i) x y hx hy
theorem hk_drop {L : List T3} {p : Nat} (hp : p < L.length) : L[p]? = some (hk (L.drop p), hs (L.drop p), hf (L.drop p)) := by
  rw [List.drop_eq_getElem_cons hp, List.getElem?_eq_getElem hp]; rfl
theorem drop_tl {L : List T3} {p : Nat} : L.drop (p + 1) = (L.drop p).tail := by rw [List.tail_drop]
section READ
variable {μ μ' μ'' : jM} {q D g d p p' k w c s : Nat} {G : DG} {L ts : List T3} {T : List Tk} {O : List Nat} {ok : Bool}
theorem PF.refl : PF q μ μ := ⟨Fx.refl, rfl, rfl⟩
theorem PF.trans (a : PF q μ μ') (b : PF q μ' μ'') : PF q μ μ'' := ⟨Fx.trans a.1 b.1, b.2.1.trans a.2.1, b.2.2.trans a.2.2⟩
theorem PF.rv (F : PF q μ μ') (a j : Nat) : jrv μ' a j = jrv μ a j := Fx.rv F.1 id
theorem PF.iv (F : PF q μ μ') {i : Nat} (h : 1 ≤ i ∧ i < 5) : jiv μ' (q + i) = jiv μ (q + i) := Fx.iv F.1 (by show ¬ (q + i = q ∨ _); omega)
theorem PZ.frx (h : PZ μ q D g G L p) (F : Fx (fun a => a = q ∨ (q + 5 ≤ a ∧ a < q + 10)) (fun _ _ => False) μ μ') (h6 : jiv μ' q 6 = N p') : PZ μ' q D g G L p' := by
  obtain ⟨h1, h2, h3, h4, h5, h7, h8, h9, -⟩ := h
  obtain ⟨o1, o2⟩ := h5.outx F (fun a ha => by
    have ha : a = q ∨ (q + 5 ≤ a ∧ a < q + 10) := ha
    omega) (fun _ _ g => g.elim)
  have rv : ∀ a j, jrv μ' a j = jrv μ a j := fun a j => Fx.rv F id
  have iv : ∀ i, 1 ≤ i ∧ i < 5 → jiv μ' (q + i) = jiv μ (q + i) := fun i hi => Fx.iv F (by show ¬ (q + i = q ∨ _); omega)
  refine ⟨?_, ?_, fun i x hx => ?_, by rw [rv]; exact h4, o1, o2.trans h7, h8, h9, h6⟩
  · unfold TQ
    simp only [F.kk, F.ll, rv]; exact h1
  · unfold RQ
    simp only [F.kk, F.ll, rv]; exact h2
  · rw [iv 2 (by decide), iv 3 (by decide), iv 4 (by decide)]; exact h3 i x hx
theorem PZ.fr (h : PZ μ q D g G L p) (F : PF q μ μ') (h6 : jiv μ' q 6 = N p') : PZ μ' q D g G L p' := h.frx F.1 h6
theorem PF.sT {v : Int32} (F : PF q μ μ') : PF q μ (jsetI μ' q 6 v) := by
  refine F.trans ⟨Fx.setI Fx.refl (Or.inl rfl), ?_, ?_⟩
  · simp [iv_setI]
  · simp [iv_setI]
theorem PF.sS {v : Int32} {j : Nat} (hj : j ≠ 2 ∧ j ≠ 3) (F : PF q μ μ') : PF q μ (jsetI μ' (q + 5) j v) := by
  refine F.trans ⟨Fx.setI Fx.refl (Or.inr (by omega)), ?_, ?_⟩
  · simp only [ty_setI, ty_setR, ty_rowI, ty_rowR, jk_setI, jk_setR, jk_rowI, jk_rowR, jl_setI, jl_setR, jl_rowI, jl_rowR, sz_setI, sz_setR, sz_rowI, sz_rowR, ext_setI, ext_setR, iv_setI, iv_setR, iv_rowI, iv_rowR, rv_setI, rv_setR, rv_rowI, rv_rowR, iv_setIn, iv_rowIn, rv_setRn, rv_rowRn, iv_rowIe, rv_rowRe, true_and]; rw [if_neg (fun e => hj.1 e.symm)]
  · simp only [ty_setI, ty_setR, ty_rowI, ty_rowR, jk_setI, jk_setR, jk_rowI, jk_rowR, jl_setI, jl_setR, jl_rowI, jl_rowR, sz_setI, sz_setR, sz_rowI, sz_rowR, ext_setI, ext_setR, iv_setI, iv_setR, iv_rowI, iv_rowR, rv_setI, rv_setR, rv_rowI, rv_rowR, iv_setIn, iv_rowIn, rv_setRn, rv_rowRn, iv_rowIe, rv_rowRe, true_and]; rw [if_neg (fun e => hj.2 e.symm)]
theorem PF.sA {v : Int32} {i j : Nat} (hi : 6 ≤ i ∧ i < 10) (F : PF q μ μ') : PF q μ (jsetI μ' (q + i) j v) := by
  refine F.trans ⟨Fx.setI Fx.refl (Or.inr (by omega)), ?_, ?_⟩
  · rw [iv_setIn (by omega)]
  · rw [iv_setIn (by omega)]
theorem PZ.k0 (h : PZ μ q D g G L p) : jk μ q = 10 := h.1.1.1
theorem PZ.r0 (h : PZ μ q D g G L p) : jk μ (q + 5) = 11 ∧ jrv μ (q + 5) 0 = some q := ⟨h.2.1.1.1, h.2.1.2.1⟩
theorem PZ.at (h : PZ μ q D g G L p) : jiv μ q 6 = N p := h.2.2.2.2.2.2.2.2
theorem x_token (h : PZ μ q D g G L p) (hp : p < L.length) (h41 : L.length ≤ 41) : jC d 141 [.ref q] μ = some (some (.int (N (hk (L.drop p)))), μ) := by
  have h6 := h.at
  obtain ⟨⟨⟨k0, k1, k1', k2, l2, k3, l3, k4, l4⟩, r0, r3, r4, r5⟩, -, hT, -, -, -, -, -, -⟩ := h
  have ht := hT p _ (hk_drop hp)
  have e := ent_get (μ := μ) k2 l2 (show p < 41 by omega) (by decide)
  rw [jC_run (by decide)]
  show jR d 141 0 [.ref q] [] μ = _
  simp only [b141_0, gI10, gR10, pI10, pR10, rv10, aI_eq, aB_eq, aR_eq, sI_eq, sB_eq, sR_eq, Option.bind_some, Option.bind_none, if_true, if_false, true_or, or_true, false_or, or_false, true_and, and_true, false_and, and_false, decide_eq_true_eq, decide_true, decide_false, eq_self, not_true_eq_false, not_false_eq_true, jfit0, N_lit, N_add, N_mul, NEG_eq, pl_none, pl_some, rf_some, rf_none, jun_ref, jun_null, ir_ref, ir_null, jr_rf, jun_rf, Option.toList_some, Option.toList_none, List.nil_append, List.cons_append, k0, r3, h6, e, ht.1]
theorem x_figure (h : PZ μ q D g G L p) (hp : p < L.length) (h41 : L.length ≤ 41) : jC d 143 [.ref q] μ = some (some (.int (N (hf (L.drop p)))), μ) := by
  have h6 := h.at
  obtain ⟨⟨⟨k0, k1, k1', k2, l2, k3, l3, k4, l4⟩, r0, r3, r4, r5⟩, -, hT, -, -, -, -, -, -⟩ := h
  have ht := hT p _ (hk_drop hp)
  have e := ent_get (μ := μ) k4 l4 (show p < 41 by omega) (by decide)
  rw [jC_run (by decide)]
  show jR d 143 0 [.ref q] [] μ = _
  simp only [b143_0, gI10, gR10, pI10, pR10, rv10, aI_eq, aB_eq, aR_eq, sI_eq, sB_eq, sR_eq, Option.bind_some, Option.bind_none, if_true, if_false, true_or, or_true, false_or, or_false, true_and, and_true, false_and, and_false, decide_eq_true_eq, decide_true, decide_false, eq_self, not_true_eq_false, not_false_eq_true, jfit0, N_lit, N_add, N_mul, NEG_eq, pl_none, pl_some, rf_some, rf_none, jun_ref, jun_null, ir_ref, ir_null, jr_rf, jun_rf, Option.toList_some, Option.toList_none, List.nil_append, List.cons_append, k0, r5, h6, e, ht.2.2]
theorem x_start (h : PZ μ q D g G L p) (hp : p < L.length) (h41 : L.length ≤ 41) : jC d 145 [.ref q] μ = some (some (.int (N (hs (L.drop p)))), μ) := by
  have h6 := h.at
  obtain ⟨⟨⟨k0, k1, k1', k2, l2, k3, l3, k4, l4⟩, r0, r3, r4, r5⟩, -, hT, -, -, -, -, -, -⟩ := h
  have ht := hT p _ (hk_drop hp)
  have e := ent_get (μ := μ) k3 l3 (show p < 41 by omega) (by decide)
  rw [jC_run (by decide)]
  show jR d 145 0 [.ref q] [] μ = _
  simp only [b145_0, gI10, gR10, pI10, pR10, rv10, aI_eq, aB_eq, aR_eq, sI_eq, sB_eq, sR_eq, Option.bind_some, Option.bind_none, if_true, if_false, true_or, or_true, false_or, or_false, true_and, and_true, false_and, and_false, decide_eq_true_eq, decide_true, decide_false, eq_self, not_true_eq_false, not_false_eq_true, jfit0, N_lit, N_add, N_mul, NEG_eq, pl_none, pl_some, rf_some, rf_none, jun_ref, jun_null, ir_ref, ir_null, jr_rf, jun_rf, Option.toList_some, Option.toList_none, List.nil_append, List.cons_append, k0, r4, h6, e, ht.2.1]
theorem x_advance (hk : jk μ q = 10) (h6 : jiv μ q 6 = N p) (hp : p < 40) : jC d 142 [.ref q] μ = some (none, jsetI μ q 6 (N (p + 1))) := by
  rw [jC_run (by decide)]
  show jR d 142 0 [.ref q] [] μ = _
  simp only [b142_0, gI10, gR10, pI10, pR10, rv10, aI_eq, aB_eq, aR_eq, sI_eq, sB_eq, sR_eq, Option.bind_some, Option.bind_none, if_true, if_false, true_or, or_true, false_or, or_false, true_and, and_true, false_and, and_false, decide_eq_true_eq, decide_true, decide_false, eq_self, not_true_eq_false, not_false_eq_true, jfit0, N_lit, N_add, N_mul, NEG_eq, pl_none, pl_some, rf_some, rf_none, jun_ref, jun_null, ir_ref, ir_null, jr_rf, jun_rf, Option.toList_some, Option.toList_none, List.nil_append, List.cons_append, hk, h6, N_lt (show p < 2147483648 by omega) (show 40 < 2147483648 by decide), hp, b142_19]
/-- on by one token -/
theorem PZ.adv (h : PZ μ q D g G L p) : PZ (jsetI μ q 6 (N (p + 1))) q D g G L (p + 1) ∧ PF q μ (jsetI μ q 6 (N (p + 1))) :=
  ⟨h.fr (PF.sT PF.refl) (by simp [iv_setI]), PF.sT PF.refl⟩
theorem PT.adv {v : Int32} (h : PT μ q T O) : PT (jsetI μ q 6 v) q T O := by
  unfold PT
  rw [iv_setIn (show ¬ q + 5 = q by omega), iv_setIn (show ¬ q + 6 = q by omega), iv_setIn (show ¬ q + 7 = q by omega), iv_setIn (show ¬ q + 8 = q by omega), iv_setIn (show ¬ q + 9 = q by omega)]
  exact h
/-- a token kept -/
theorem x_keep {x y z : Int32} (h : PZ μ q D g G L p) (hT : PT μ q T O) (hp : p < 40) (hl : T.length < 40) : ∃ μ', jC (d + 1) 151 [.ref (q + 5), .int x, .int y, .int z] μ = some (some (.int (N T.length)), μ') ∧ PF q μ μ' ∧ PZ μ' q D g G L (p + 1) ∧ PT μ' q (T ++ [(x, y, z)]) O := by
  have h6 := h.at
  have k0 := h.k0
  obtain ⟨⟨k5, k6, l6, k7, l7, k8, l8, k9, l9⟩, r0, r4, r5, r6, r8⟩ := h.2.1
  obtain ⟨t7, t9, tT, tO⟩ := hT
  have e6 := ent_set (μ := μ) (v := x) k6 l6 hl (by decide)
  have e7 := ent_set (μ := jsetI μ (q + 6) T.length x) (v := y) k7 l7 hl (by decide)
  have e8 := ent_set (μ := jsetI (jsetI μ (q + 6) T.length x) (q + 7) T.length y) (v := z) k8 l8 hl (by decide)
  have hF : PF q μ (jsetI (jsetI (jsetI (jsetI (jsetI μ (q + 6) T.length x) (q + 7) T.length y) (q + 8) T.length z) (q + 5) 7 (N (T.length + 1))) q 6 (N (p + 1))) := PF.sT (PF.sS (by decide) (PF.sA (by decide) (PF.sA (by decide) (PF.sA (by decide) PF.refl))))
  refine ⟨jsetI (jsetI (jsetI (jsetI (jsetI μ (q + 6) T.length x) (q + 7) T.length y) (q + 8) T.length z) (q + 5) 7 (N (T.length + 1))) q 6 (N (p + 1)), ?_, hF, h.fr hF (by simp [iv_setI]), ?_⟩
  · rw [jC_run (by decide)]
    show jR (d + 1) 151 0 [.ref (q + 5), .int x, .int y, .int z, .retAddr 0] [] μ = _
    rw [b151_0]
    have ha := x_advance (d := d) (μ := jsetI (jsetI (jsetI (jsetI μ (q + 6) T.length x) (q + 7) T.length y) (q + 8) T.length z) (q + 5) 7 (N (T.length + 1))) (q := q) (p := p) k0 (by simp [iv_setI]; exact h6) hp
    have n7 : jiv (jsetI (jsetI (jsetI μ (q + 6) T.length x) (q + 7) T.length y) (q + 8) T.length z) (q + 5) 7 = N T.length := by simp [iv_setI]; exact t7
    simp only [gI11, gR11, pI11, pR11, rv11, gI10, gR10, pI10, pR10, rv10, Option.bind_some, Option.bind_none, if_true, if_false, true_or, or_true, false_or, or_false, true_and, and_true, false_and, and_false, decide_eq_true_eq, decide_true, decide_false, eq_self, not_true_eq_false, not_false_eq_true, jfit0, N_lit, N_add, N_mul, NEG_eq, pl_none, pl_some, rf_some, rf_none, jun_ref, jun_null, ir_ref, ir_null, jr_rf, jun_rf, Option.toList_some, Option.toList_none, List.nil_append, List.cons_append, jk_setI, rv_setI, k5, k0, t7, r0, r4, r5, r6, N_lt (show T.length < 2147483648 by omega) (show 40 < 2147483648 by decide), hl, e6, e7, e8, n7, b151_47, ha, b151_54]
  · refine ⟨by simp [iv_setI], by simp [iv_setI]; exact t9, fun i t hi => ?_, fun i o hi => ?_⟩
    · rw [List.getElem?_append] at hi
      split at hi
      · rename_i hi2
        have := tT i t hi
        have hne : i ≠ T.length := by omega
        simp [iv_setI, hne, this]
      · rename_i hi2
        have : i = T.length := by
          have := (List.getElem?_eq_some_iff.mp hi).1
          simp at this; omega
        subst this
        rw [Nat.sub_self] at hi
        cases hi
        simp [iv_setI]
    · simp [iv_setI]; exact tO i o hi
/-- a place put into the order -/
theorem x_wo {o : Nat} (h : PZ μ q D g G L p) (hT : PT μ q T O) (hl : O.length < 40) : ∃ μ', jC d 152 [.ref (q + 5), .int (N o)] μ = some (none, μ') ∧ PF q μ μ' ∧ PZ μ' q D g G L p ∧ PT μ' q T (O ++ [o]) := by
  have h6 := h.at
  obtain ⟨⟨k5, k6, l6, k7, l7, k8, l8, k9, l9⟩, r0, r4, r5, r6, r8⟩ := h.2.1
  obtain ⟨t7, t9, tT, tO⟩ := hT
  have e9 := ent_set (μ := μ) (v := N o) k9 l9 hl (by decide)
  have hF : PF q μ (jsetI (jsetI μ (q + 9) O.length (N o)) (q + 5) 9 (N (O.length + 1))) := PF.sS (by decide) (PF.sA (by decide) PF.refl)
  refine ⟨jsetI (jsetI μ (q + 9) O.length (N o)) (q + 5) 9 (N (O.length + 1)), ?_, hF, h.fr hF (by simp [iv_setI]; exact h6), ?_⟩
  · rw [jC_run (by decide)]
    show jR d 152 0 [.ref (q + 5), .int (N o)] [] μ = _
    have n9 : jiv (jsetI μ (q + 9) O.length (N o)) (q + 5) 9 = N O.length := by simp [iv_setI]; exact t9
    simp only [b152_0, gI11, gR11, pI11, pR11, rv11, Option.bind_some, Option.bind_none, if_true, if_false, true_or, or_true, false_or, or_false, true_and, and_true, false_and, and_false, decide_eq_true_eq, decide_true, decide_false, eq_self, not_true_eq_false, not_false_eq_true, jfit0, N_lit, N_add, N_mul, NEG_eq, pl_none, pl_some, rf_some, rf_none, jun_ref, jun_null, ir_ref, ir_null, jr_rf, jun_rf, Option.toList_some, Option.toList_none, List.nil_append, List.cons_append, jk_setI, k5, t9, r8, N_lt (show O.length < 2147483648 by omega) (show 40 < 2147483648 by decide), hl, e9, n9, b152_29]
  · refine ⟨by simp [iv_setI]; exact t7, by simp [iv_setI], fun i t hi => ?_, fun i t hi => ?_⟩
    · simp [iv_setI]; exact tT i t hi
    · rw [List.getElem?_append] at hi
      split at hi
      · rename_i hi2
        have := tO i t hi
        have hne : i ≠ O.length := by omega
        simp [iv_setI, hne, this]
      · rename_i hi2
        have : i = O.length := by
          have := (List.getElem?_eq_some_iff.mp hi).1
          simp at this; omega
        subst this
        rw [Nat.sub_self] at hi
        cases hi
        simp [iv_setI]
theorem x_wo40 {o : Nat} (h : PZ μ q D g G L p) (hT : PT μ q T O) (hl : O.length = 40) : jC d 152 [.ref (q + 5), .int (N o)] μ = some (none, μ) := by
  obtain ⟨t7, t9, tT, tO⟩ := hT
  rw [jC_run (by decide)]
  show jR d 152 0 [.ref (q + 5), .int (N o)] [] μ = _
  simp only [b152_0, gI11, gR11, pI11, pR11, rv11, aI_eq, aB_eq, aR_eq, sI_eq, sB_eq, sR_eq, Option.bind_some, Option.bind_none, if_true, if_false, true_or, or_true, false_or, or_false, true_and, and_true, false_and, and_false, decide_eq_true_eq, decide_true, decide_false, eq_self, not_true_eq_false, not_false_eq_true, jfit0, N_lit, N_add, N_mul, NEG_eq, pl_none, pl_some, rf_some, rf_none, jun_ref, jun_null, ir_ref, ir_null, jr_rf, jun_rf, Option.toList_some, Option.toList_none, List.nil_append, List.cons_append, h.r0.1, t9, hl, N_lt (show 40 < 2147483648 by decide) (show 40 < 2147483648 by decide), Nat.lt_irrefl, b152_29]
/-- a token that isn't the last one -/
theorem more (hL : GTS L) (hp : p < L.length) (h0 : hk (L.drop p) ≠ 0) : p + 1 < L.length := by
  have := ((hL.drop hp).tl h0)
  have h2 := this.1.hd.2.2.2.2
  have h3 := this.2.1
  rw [List.length_drop] at h3
  omega
theorem hkN (hL : GTS L) (hp : p < L.length) {c : Nat} (hc : c < 256) : (N (hk (L.drop p)) = N c) = (hk (L.drop p) = c) := N_inj (by have := (hL.drop hp).hd.2.1; omega) (by omega)
theorem pe_fail (F : PF q μ μ') (hp : p < L.length) (h : PZ μ' q D g G L p) : PE μ μ' q D g G L false (L.drop p) T O := ⟨F, p, hp, rfl, h, fun e => by cases e⟩
theorem x_readSign (hL : GTS L) (h41 : L.length ≤ 41) (h : PZ μ q D g G L p) (hT : PT μ q T O) (hp : p < L.length) (hl : T.length ≤ p) (hc : c < 256 ∧ c ≠ 0) : ∃ μ', jC (d + 2) 155 [.ref (q + 5), .int (N c)] μ = some (some (.int (bN (decide (hk (L.drop p) = c)))), μ') ∧ PE μ μ' q D g G L (decide (hk (L.drop p) = c)) (if hk (L.drop p) = c then (L.drop p).tail else L.drop p) (T ++ [(N c, N 0, N 0)]) O := by
  have pre : ∀ x, (if N (hk (L.drop p)) = N c then (jC (d + 1) 151 [.ref (q + 5), .int (N c), .int (N 0), .int (N 0)] μ).bind fun p1 => jR (d + 2) 155 20 [.ref (q + 5), .int (N c)] (p1.1.toList ++ []) p1.2 else some (some (.int (N 0)), μ)) = x → jC (d + 2) 155 [.ref (q + 5), .int (N c)] μ = x := by
    intro x hx
    rw [← hx, jC_run (by decide)]
    show jR (d + 2) 155 0 [.ref (q + 5), .int (N c)] [] μ = _
    simp only [b155_0, gI11, gR11, pI11, pR11, rv11, gI10, gR10, pI10, pR10, rv10, aI_eq, aB_eq, aR_eq, sI_eq, sB_eq, sR_eq, Option.bind_some, Option.bind_none, if_true, if_false, true_or, or_true, false_or, or_false, true_and, and_true, false_and, and_false, decide_eq_true_eq, decide_true, decide_false, eq_self, not_true_eq_false, not_false_eq_true, jfit0, N_lit, N_add, N_mul, NEG_eq, pl_none, pl_some, rf_some, rf_none, jun_ref, jun_null, ir_ref, ir_null, jr_rf, jun_rf, Option.toList_some, Option.toList_none, List.nil_append, List.cons_append, h.k0, h.r0, x_token h hp h41, b155_7]
  by_cases e : hk (L.drop p) = c
  · have hm := more hL hp (by omega)
    obtain ⟨μ', r1, r2, r3, r4⟩ := x_keep (d := d) (x := N c) (y := N 0) (z := N 0) h hT (by omega) (by omega)
    refine ⟨μ', pre _ ?_, r2, p + 1, hm, ?_, r3, fun _ => ⟨r4, by simp; omega⟩⟩
    · rw [if_pos (by rw [e]), r1, decide_eq_true e]
      simp only [aI_eq, aB_eq, aR_eq, sI_eq, sB_eq, sR_eq, Option.bind_some, Option.bind_none, if_true, if_false, true_or, or_true, false_or, or_false, true_and, and_true, false_and, and_false, decide_eq_true_eq, decide_true, decide_false, eq_self, not_true_eq_false, not_false_eq_true, jfit0, N_lit, N_add, N_mul, NEG_eq, pl_none, pl_some, rf_some, rf_none, jun_ref, jun_null, ir_ref, ir_null, jr_rf, jun_rf, Option.toList_some, Option.toList_none, List.nil_append, List.cons_append, b155_20]; rfl
    · rw [if_pos e, drop_tl]
  · refine ⟨μ, pre _ ?_, ?_⟩
    · simp only [hkN hL hp hc.1, if_neg e, decide_eq_false e]; rfl
    · rw [if_neg e, decide_eq_false e]; exact pe_fail PF.refl hp h
/-- the key of a place that a text tells -/
theorem x_key (h : PZ μ q D g G L p) (hK : KK G) {f : Nat} (hf : f < 1000000) : jC d 89 [.ref g, .int (N f - N 1)] μ = some (some (.int (N (kyG G f))), μ) := by
  have hg := h.2.2.2.2.1
  have hG := h.2.2.2.2.2.1
  unfold kyG
  by_cases e : f = 0
  · subst e
    rw [if_pos rfl]
    exact x_keyAt_neg hg.2.1 (by decide)
  · rw [if_neg e, N_sub (by omega), d_keyAt hg (by omega), hG]
    obtain ⟨k, h1, h2⟩ := kyG_N hK (f - 1)
    rw [h2, N_nat (by omega)]
/-- a ref's column and place -/
theorem ref_56 {u2 u3 : Value} (hL : GTS L) (h41 : L.length ≤ 41) (hK : KK G) (h : PZ μ q D g G L p) (hT : PT μ q T O) (hp : p < L.length) (hl : T.length ≤ p) (hs : s < 2) : ∃ μ', jR (d + 2) 157 56 [.ref (q + 5), .int (N (114 + s)), u2, u3] [] μ = some (some (.int (bN (if hk (L.drop p) = 97 then (if hk (L.drop p).tail = 48 ∧ kyG G (hf (L.drop p).tail) ≠ 0 then true else false) else false))), μ') ∧ PE μ μ' q D g G L (if hk (L.drop p) = 97 then (if hk (L.drop p).tail = 48 ∧ kyG G (hf (L.drop p).tail) ≠ 0 then true else false) else false) (if hk (L.drop p) = 97 then (if hk (L.drop p).tail = 48 ∧ kyG G (hf (L.drop p).tail) ≠ 0 then (L.drop p).tail.tail else (L.drop p).tail) else L.drop p) (T ++ [rT (8 * kyG G (hf (L.drop p).tail) + 2 * hf (L.drop p) + s)]) O := by
  rw [b157_56]
  simp only [gI11, gR11, pI11, pR11, rv11, gI10, gR10, pI10, pR10, rv10, aI_eq, aB_eq, aR_eq, sI_eq, sB_eq, sR_eq, Option.bind_some, Option.bind_none, if_true, if_false, true_or, or_true, false_or, or_false, true_and, and_true, false_and, and_false, decide_eq_true_eq, decide_true, decide_false, eq_self, not_true_eq_false, not_false_eq_true, jfit0, N_lit, N_add, N_mul, NEG_eq, pl_none, pl_some, rf_some, rf_none, jun_ref, jun_null, ir_ref, ir_null, jr_rf, jun_rf, Option.toList_some, Option.toList_none, List.nil_append, List.cons_append, h.k0, h.r0, x_token h hp h41, b157_63, hkN hL hp (show 97 < 256 by decide)]
  by_cases e1 : hk (L.drop p) = 97
  · simp only [if_pos e1]
    have hm := more hL hp (by omega)
    have hcol := (hL.drop hp).hd.2.2.2.1 e1
    obtain ⟨z1, F1⟩ := h.adv
    have T1 := hT.adv (v := N (p + 1))
    simp only [x_figure h hp h41, aI_eq, aB_eq, aR_eq, sI_eq, sB_eq, sR_eq, Option.bind_some, Option.bind_none, if_true, if_false, true_or, or_true, false_or, or_false, true_and, and_true, false_and, and_false, decide_eq_true_eq, decide_true, decide_false, eq_self, not_true_eq_false, not_false_eq_true, jfit0, N_lit, N_add, N_mul, NEG_eq, pl_none, pl_some, rf_some, rf_none, jun_ref, jun_null, ir_ref, ir_null, jr_rf, jun_rf, Option.toList_some, Option.toList_none, List.nil_append, List.cons_append, b157_77, gI11, gR11, pI11, pR11, rv11, gI10, gR10, pI10, pR10, rv10, h.k0, h.r0, x_advance h.k0 h.at (show p < 40 by omega)]
    generalize jsetI μ q 6 (N (p + 1)) = μ1 at *
    simp only [b157_85, gI11, gR11, pI11, pR11, rv11, gI10, gR10, pI10, pR10, rv10, aI_eq, aB_eq, aR_eq, sI_eq, sB_eq, sR_eq, Option.bind_some, Option.bind_none, if_true, if_false, true_or, or_true, false_or, or_false, true_and, and_true, false_and, and_false, decide_eq_true_eq, decide_true, decide_false, eq_self, not_true_eq_false, not_false_eq_true, jfit0, N_lit, N_add, N_mul, NEG_eq, pl_none, pl_some, rf_some, rf_none, jun_ref, jun_null, ir_ref, ir_null, jr_rf, jun_rf, Option.toList_some, Option.toList_none, List.nil_append, List.cons_append, z1.k0, z1.r0, x_token z1 hm h41, b157_92, hkN hL hm (show 48 < 256 by decide)]
    rw [← drop_tl]
    by_cases e2 : hk (L.drop (p + 1)) = 48
    · simp only [if_pos e2, z1.2.2.2.1, gI11, gR11, pI11, pR11, rv11, gI10, gR10, pI10, pR10, rv10, gI6, gR6, pI6, pR6, rv6, aI_eq, aB_eq, aR_eq, sI_eq, sB_eq, sR_eq, Option.bind_some, Option.bind_none, if_true, if_false, true_or, or_true, false_or, or_false, true_and, and_true, false_and, and_false, decide_eq_true_eq, decide_true, decide_false, eq_self, not_true_eq_false, not_false_eq_true, jfit0, N_lit, N_add, N_mul, NEG_eq, pl_none, pl_some, rf_some, rf_none, jun_ref, jun_null, ir_ref, ir_null, jr_rf, jun_rf, Option.toList_some, Option.toList_none, List.nil_append, List.cons_append, z1.k0, z1.r0, x_figure z1 hm h41, b157_108, z1.2.2.2.2.1.2.1.1.1, x_key z1 hK ((hL.drop hm).hd.2.2.1 e2), b157_113]
      have hky := kyG_lt hK (hf (L.drop (p + 1)))
      by_cases e3 : kyG G (hf (L.drop (p + 1))) = 0
      · rw [if_neg (fun g => g.2 e3), if_neg (fun g => g.2 e3)]
        simp only [e3, b157_117, aI_eq, aB_eq, aR_eq, sI_eq, sB_eq, sR_eq, Option.bind_some, Option.bind_none, if_true, if_false, true_or, or_true, false_or, or_false, true_and, and_true, false_and, and_false, decide_eq_true_eq, decide_true, decide_false, eq_self, not_true_eq_false, not_false_eq_true, jfit0, N_lit, N_add, N_mul, NEG_eq, pl_none, pl_some, rf_some, rf_none, jun_ref, jun_null, ir_ref, ir_null, jr_rf, jun_rf, Option.toList_some, Option.toList_none, List.nil_append, List.cons_append]
        exact ⟨μ1, rfl, pe_fail F1 hm z1⟩
      · have hm2 := more hL hm (by omega)
        obtain ⟨μ', r1, r2, r3, r4⟩ := x_keep (d := d) (x := N (114 + s)) (y := N (hf (L.drop p))) (z := N (kyG G (hf (L.drop (p + 1))))) z1 T1 (by omega) (by omega)
        rw [if_pos ⟨e2, e3⟩, if_pos ⟨e2, e3⟩]
        refine ⟨μ', ?_, F1.trans r2, p + 1 + 1, hm2, by rw [drop_tl], r3, fun _ => ⟨?_, by simp; omega⟩⟩
        · rw [b157_117]
          simp only [N_inj (show kyG G (hf (L.drop (p + 1))) < 2147483648 by omega) (show 0 < 2147483648 by decide), e3, N_lit, gI11, gR11, pI11, pR11, rv11, aI_eq, aB_eq, aR_eq, sI_eq, sB_eq, sR_eq, Option.bind_some, Option.bind_none, if_true, if_false, true_or, or_true, false_or, or_false, true_and, and_true, false_and, and_false, decide_eq_true_eq, decide_true, decide_false, eq_self, not_true_eq_false, not_false_eq_true, jfit0, N_lit, N_add, N_mul, NEG_eq, pl_none, pl_some, rf_some, rf_none, jun_ref, jun_null, ir_ref, ir_null, jr_rf, jun_rf, Option.toList_some, Option.toList_none, List.nil_append, List.cons_append, z1.r0, r1, b157_131]
          rfl
        · have : rT (8 * kyG G (hf (L.drop (p + 1))) + 2 * hf (L.drop p) + s) = (N (114 + s), N (hf (L.drop p)), N (kyG G (hf (L.drop (p + 1))))) := by
            unfold rT
            rw [show (8 * kyG G (hf (L.drop (p + 1))) + 2 * hf (L.drop p) + s) % 2 = s by omega, show (8 * kyG G (hf (L.drop (p + 1))) + 2 * hf (L.drop p) + s) / 2 % 4 = hf (L.drop p) by omega, show (8 * kyG G (hf (L.drop (p + 1))) + 2 * hf (L.drop p) + s) / 8 = kyG G (hf (L.drop (p + 1))) by omega]
            rcases (show s = 0 ∨ s = 1 by omega) with rfl | rfl <;> rfl
          rw [this]; exact r4
    · have e4 : ¬ (hk (L.drop (p + 1)) = 48 ∧ kyG G (hf (L.drop (p + 1))) ≠ 0) := fun g => e2 g.1
      simp only [if_neg e2, if_neg e4, N_lit, b157_117, aI_eq, aB_eq, aR_eq, sI_eq, sB_eq, sR_eq, Option.bind_some, Option.bind_none, if_true, if_false, true_or, or_true, false_or, or_false, true_and, and_true, false_and, and_false, decide_eq_true_eq, decide_true, decide_false, eq_self, not_true_eq_false, not_false_eq_true, jfit0, N_lit, N_add, N_mul, NEG_eq, pl_none, pl_some, rf_some, rf_none, jun_ref, jun_null, ir_ref, ir_null, jr_rf, jun_rf, Option.toList_some, Option.toList_none, List.nil_append, List.cons_append]
      exact ⟨μ1, rfl, pe_fail F1 hm z1⟩
  · simp only [if_neg e1]
    exact ⟨μ, rfl, pe_fail PF.refl hp h⟩
theorem x_readRef (hL : GTS L) (h41 : L.length ≤ 41) (hK : KK G) (h : PZ μ q D g G L p) (hT : PT μ q T O) (hp : p < L.length) (hl : T.length ≤ p) : ∃ μ', jC (d + 2) 157 [.ref (q + 5)] μ = some (some (.int (bN (pRef (kyG G) (L.drop p)).1)), μ') ∧ PE μ μ' q D g G L (pRef (kyG G) (L.drop p)).1 (pRef (kyG G) (L.drop p)).2.1 (T ++ [rT (pRef (kyG G) (L.drop p)).2.2]) O := by
  rw [jC_run (by decide)]
  show ∃ μ', jR (d + 2) 157 0 [.ref (q + 5), .retAddr 0, .retAddr 0, .retAddr 0] [] μ = _ ∧ _
  simp only [b157_0, gI11, gR11, pI11, pR11, rv11, gI10, gR10, pI10, pR10, rv10, aI_eq, aB_eq, aR_eq, sI_eq, sB_eq, sR_eq, Option.bind_some, Option.bind_none, if_true, if_false, true_or, or_true, false_or, or_false, true_and, and_true, false_and, and_false, decide_eq_true_eq, decide_true, decide_false, eq_self, not_true_eq_false, not_false_eq_true, jfit0, N_lit, N_add, N_mul, NEG_eq, pl_none, pl_some, rf_some, rf_none, jun_ref, jun_null, ir_ref, ir_null, jr_rf, jun_rf, Option.toList_some, Option.toList_none, List.nil_append, List.cons_append, h.k0, h.r0, x_token h hp h41, b157_7, hkN hL hp (show 35 < 256 by decide)]
  unfold pRef
  by_cases e1 : hk (L.drop p) = 35
  · simp only [if_pos e1]
    have hm := more hL hp (by omega)
    obtain ⟨μ', r1, r2, r3, r4⟩ := x_keep (d := d) (x := N 114) (y := N 0) (z := N 0) h hT (by omega) (by omega)
    refine ⟨μ', ?_, r2, p + 1, hm, by rw [drop_tl], r3, fun _ => ⟨r4, by simp; omega⟩⟩
    simp only [aI_eq, aB_eq, aR_eq, sI_eq, sB_eq, sR_eq, Option.bind_some, Option.bind_none, if_true, if_false, true_or, or_true, false_or, or_false, true_and, and_true, false_and, and_false, decide_eq_true_eq, decide_true, decide_false, eq_self, not_true_eq_false, not_false_eq_true, jfit0, N_lit, N_add, N_mul, NEG_eq, pl_none, pl_some, rf_some, rf_none, jun_ref, jun_null, ir_ref, ir_null, jr_rf, jun_rf, Option.toList_some, Option.toList_none, List.nil_append, List.cons_append, r1, b157_20]; rfl
  · simp only [if_neg e1, gI11, gR11, pI11, pR11, rv11, gI10, gR10, pI10, pR10, rv10, aI_eq, aB_eq, aR_eq, sI_eq, sB_eq, sR_eq, Option.bind_some, Option.bind_none, if_true, if_false, true_or, or_true, false_or, or_false, true_and, and_true, false_and, and_false, decide_eq_true_eq, decide_true, decide_false, eq_self, not_true_eq_false, not_false_eq_true, jfit0, N_lit, N_add, N_mul, NEG_eq, pl_none, pl_some, rf_some, rf_none, jun_ref, jun_null, ir_ref, ir_null, jr_rf, jun_rf, Option.toList_some, Option.toList_none, List.nil_append, List.cons_append, h.k0, h.r0, x_token h hp h41, b157_30, hkN hL hp (show 36 < 256 by decide)]
    by_cases e2 : hk (L.drop p) = 36
    · have hm := more hL hp (by omega)
      simp only [if_pos e2, N_lit, b157_42, gI11, gR11, pI11, pR11, rv11, gI10, gR10, pI10, pR10, rv10, aI_eq, aB_eq, aR_eq, sI_eq, sB_eq, sR_eq, Option.bind_some, Option.bind_none, if_true, if_false, true_or, or_true, false_or, or_false, true_and, and_true, false_and, and_false, decide_eq_true_eq, decide_true, decide_false, eq_self, not_true_eq_false, not_false_eq_true, jfit0, N_lit, N_add, N_mul, NEG_eq, pl_none, pl_some, rf_some, rf_none, jun_ref, jun_null, ir_ref, ir_null, jr_rf, jun_rf, Option.toList_some, Option.toList_none, List.nil_append, List.cons_append, h.k0, h.r0, x_advance h.k0 h.at (show p < 40 by omega)]
      obtain ⟨z1, F1⟩ := h.adv
      have T1 := hT.adv (v := N (p + 1))
      generalize jsetI μ q 6 (N (p + 1)) = μ1 at *
      obtain ⟨μ', r1, r2, r3⟩ := ref_56 (d := d) (s := 1) (u2 := .retAddr 0) (u3 := .retAddr 0) hL h41 hK z1 T1 hm (by omega) (by decide)
      refine ⟨μ', r1.trans ?_, F1.trans r2, ?_⟩
      · rw [drop_tl]
        split
        · split <;> rfl
        · rfl
      · rw [drop_tl] at r3
        by_cases c1 : hk (L.drop p).tail = 97
        · simp only [if_pos c1] at r3 ⊢
          by_cases c2 : hk (L.drop p).tail.tail = 48 ∧ kyG G (hf (L.drop p).tail.tail) ≠ 0
          · simp only [if_pos c2] at r3 ⊢; exact r3
          · simp only [if_neg c2] at r3 ⊢
            obtain ⟨p', a1, a2, a3, a4⟩ := r3
            exact ⟨p', a1, a2, a3, fun g => by cases g⟩
        · simp only [if_neg c1] at r3 ⊢
          obtain ⟨p', a1, a2, a3, a4⟩ := r3
          exact ⟨p', a1, a2, a3, fun g => by cases g⟩
    · simp only [if_neg e2, N_lit, b157_42, show (N 114 = N 115) = False from N_ne (by decide) (by decide) (by decide), if_false]
      obtain ⟨μ', r1, r2, r3⟩ := ref_56 (d := d) (s := 0) (u2 := .retAddr 0) (u3 := .retAddr 0) hL h41 hK h hT hp hl (by decide)
      refine ⟨μ', r1.trans ?_, r2, ?_⟩
      · split
        · split <;> rfl
        · rfl
      · by_cases c1 : hk (L.drop p) = 97
        · simp only [if_pos c1] at r3 ⊢
          by_cases c2 : hk (L.drop p).tail = 48 ∧ kyG G (hf (L.drop p).tail) ≠ 0
          · simp only [if_pos c2] at r3 ⊢; exact r3
          · simp only [if_neg c2] at r3 ⊢
            obtain ⟨p', a1, a2, a3, a4⟩ := r3
            exact ⟨p', a1, a2, a3, fun g => by cases g⟩
        · simp only [if_neg c1] at r3 ⊢
          obtain ⟨p', a1, a2, a3, a4⟩ := r3
          exact ⟨p', a1, a2, a3, fun g => by cases g⟩
end READ
