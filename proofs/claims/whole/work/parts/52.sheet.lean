/-! SHEETS: their shape, the methods of Sheet -/
def vS (μ : jM) (s : Nat) : Nat := (jiv μ s 1).toNatClampNeg
def shL (μ : jM) (s : Nat) : List Int32 := (List.range (vS μ s)).map (jiv μ (s + 1))
/-- a good sheet -/
def SV (μ : jM) (s : Nat) : Prop := (jk μ s = 9 ∧ jrv μ s 2 = some (s + 1) ∧ jk μ (s + 1) = 20 ∧ jl μ (s + 1) = 40) ∧ jiv μ s 1 = N (vS μ s) ∧ vS μ s ≤ 40 ∧ (jiv μ s 0 = NEG ∨ jiv μ s 0 = N 0 ∨ jiv μ s 0 = N 1)
def FSh (s : Nat) (μ μ' : jM) : Prop := Fx (fun a => s ≤ a ∧ a < s + 2) (fun _ _ => False) μ μ'
/-- whether there are m items from i on -/
def HI (n : Nat) (i m : Int32) : Prop := ¬ i < N 0 ∧ ¬ m < N 0 ∧ ¬ N n - m < i
/-- what a sheet of that sort makes of a number -/
def shv (t v : Int32) : Int32 := if t = N 0 then v.toInt16.toInt32 else v
section SHEET
variable {μ μ' : jM} {s d n : Nat} {i v t : Int32}
theorem len_shL : (shL μ s).length = vS μ s := by simp [shL]
theorem SV.fr (h : SV μ s) {S : Nat → Prop} {T : Nat → Nat → Prop} (F : Fx S T μ μ') (hS : ∀ a, S a → a < s ∨ s + 2 ≤ a) (hT : ∀ a j, T a j → a < s ∨ s + 2 ≤ a) : SV μ' s ∧ shL μ' s = shL μ s ∧ jiv μ' s 0 = jiv μ s 0 := by
  have e0 : jiv μ' s = jiv μ s := F.iv (fun g => by have := hS _ g; omega)
  have e1 : jiv μ' (s + 1) = jiv μ (s + 1) := F.iv (fun g => by have := hS _ g; omega)
  have e2 : jrv μ' s 2 = jrv μ s 2 := F.rv (fun g => by have := hT _ _ g; omega)
  have e3 : vS μ' s = vS μ s := by unfold vS; rw [e0]
  refine ⟨?_, ?_, by rw [e0]⟩
  · unfold SV
    rw [F.kk, F.ll, e0, e2, e3]; exact h
  · unfold shL; rw [e3, e1]
theorem SV.fra (h : SV μ s) (hj : JW μ) {S : Nat → Prop} {T : Nat → Nat → Prop} {n w : Nat} (F : Fa S T n w μ μ') (hS : ∀ a, a < jsz μ → S a → a < s ∨ s + 2 ≤ a) (hT : ∀ a j, a < jsz μ → T a j → a < s ∨ s + 2 ≤ a) : SV μ' s ∧ shL μ' s = shL μ s ∧ jiv μ' s 0 = jiv μ s 0 := by
  have l0 : s < jsz μ := hj.lt (ne99 h.1.1 (by decide))
  have l1 : s + 1 < jsz μ := hj.lt (ne99 h.1.2.2.1 (by decide))
  have e0 : jiv μ' s = jiv μ s := F.iv l0 (fun g => by have := hS _ l0 g; omega)
  have e1 : jiv μ' (s + 1) = jiv μ (s + 1) := F.iv l1 (fun g => by have := hS _ l1 g; omega)
  have e2 : jrv μ' s 2 = jrv μ s 2 := F.rv l0 (fun g => by have := hT _ _ l0 g; omega)
  have e3 : vS μ' s = vS μ s := by unfold vS; rw [e0]
  refine ⟨?_, ?_, by rw [e0]⟩
  · unfold SV
    rw [F.kk l0, F.kk l1, F.ll l1, e0, e2, e3]; exact h
  · unfold shL; rw [e3, e1]
theorem x_isMissing (h : SV μ s) : jC d 125 [.ref s] μ = some (some (.int (pN (jiv μ s 0 = NEG))), μ) := by
  rw [jC_run (by decide)]
  show jR d 125 0 [.ref s] [] μ = _
  simp only [b125_0, b125_13, gI9, gR9, pI9, pR9, rv9, aI_eq, aB_eq, aR_eq, sI_eq, sB_eq, sR_eq, Option.bind_some, Option.bind_none, if_true, if_false, true_or, or_true, false_or, or_false, true_and, and_true, false_and, and_false, decide_eq_true_eq, decide_true, decide_false, eq_self, not_true_eq_false, not_false_eq_true, jfit0, N_lit, N_add, N_mul, NEG_eq, pl_none, pl_some, rf_some, rf_none, jun_ref, jun_null, ir_ref, ir_null, jr_rf, jun_rf, Option.toList_some, Option.toList_none, List.nil_append, List.cons_append, h.1.1, show jrf 4 (N 0) = true from rfl, show jrf 4 (N 1) = true from rfl]
  by_cases e : jiv μ s 0 = NEG
  · rw [if_pos e, pN_pos e]
  · rw [if_neg e, pN_neg e]
theorem x_hasItems (h : SV μ s) {m : Int32} : jC d 128 [.ref s, .int i, .int m] μ = some (some (.int (pN (HI (vS μ s) i m))), μ) := by
  rw [jC_run (by decide)]
  show jR d 128 0 [.ref s, .int i, .int m] [] μ = _
  simp only [b128_0, b128_22, b128_23, gI9, gR9, pI9, pR9, rv9, aI_eq, aB_eq, aR_eq, sI_eq, sB_eq, sR_eq, Option.bind_some, Option.bind_none, if_true, if_false, true_or, or_true, false_or, or_false, true_and, and_true, false_and, and_false, decide_eq_true_eq, decide_true, decide_false, eq_self, not_true_eq_false, not_false_eq_true, jfit0, N_lit, N_add, N_mul, NEG_eq, pl_none, pl_some, rf_some, rf_none, jun_ref, jun_null, ir_ref, ir_null, jr_rf, jun_rf, Option.toList_some, Option.toList_none, List.nil_append, List.cons_append, h.1.1, show jrf 4 (N 0) = true from rfl, show jrf 4 (N 1) = true from rfl]
  rw [h.2.1]
  by_cases e1 : i < N 0
  · rw [if_pos e1, pN_neg (fun g => g.1 e1)]
  · rw [if_neg e1]
    by_cases e2 : m < N 0
    · rw [if_pos e2, pN_neg (fun g => g.2.1 e2)]
    · rw [if_neg e2]
      by_cases e3 : N (vS μ s) - m < i
      · rw [if_pos e3, pN_neg (fun g => g.2.2 e3)]
      · rw [if_neg e3, pN_pos ⟨e1, e2, e3⟩]
theorem HI_1 {k : Nat} (hk : k ≤ 40) (h : HI k i (N 1)) : ∃ j, j < k ∧ i = N j := by
  obtain ⟨h1, -, h3⟩ := h
  obtain ⟨j, hj, rfl⟩ := N_of h1
  refine ⟨j, ?_, rfl⟩
  cases k with
  | zero =>
    exfalso
    refine h3 ?_
    rw [show N 0 - N 1 = NEG from rfl, NEG_lt hj]
    trivial
  | succ k =>
    rw [N_sub (by omega), Nat.add_sub_cancel, N_lt (by omega) hj] at h3
    omega
theorem HI_N {k j : Nat} (hk : k ≤ 40) (hj : j < k) : HI k (N j) (N 1) := by
  refine ⟨?_, by decide, ?_⟩
  · rw [N_lt (by omega) (by decide)]; omega
  · rw [N_sub (by omega), N_lt (by omega) (by omega)]; omega
theorem x_shBecome (h : SV μ s) (hn : n ≤ 40) (ht : t = NEG ∨ t = N 0 ∨ t = N 1) : ∃ μ', jC (d + 1) 126 [.ref s, .int t, .int (N n)] μ = some (none, μ') ∧ FSh s μ μ' ∧ SV μ' s ∧ shL μ' s = List.replicate n (N 0) ∧ jiv μ' s 0 = t := by
  have F2 : FSh s μ (jsetI (jsetI μ s 0 t) s 1 (N n)) := by
    refine Fx.setI (Fx.setI Fx.refl ?_) ?_
    · show s ≤ s ∧ s < s + 2; omega
    · show s ≤ s ∧ s < s + 2; omega
  obtain ⟨⟨k0, r2, k1, l1⟩, -, -, -⟩ := h
  generalize hμ : jsetI (jsetI μ s 0 t) s 1 (N n) = μ2 at F2
  obtain ⟨μ3, a1, a2, a3⟩ := x_fill (d := d) (x := N 0) (μ := μ2) (a := s + 1) (by rw [F2.kk]; exact k1) (by rw [F2.ll, l1]; decide)
  have F3 : FSh s μ μ3 := Fx.trans F2 ⟨a2.ext, a2.ty, a2.sz, a2.sl, fun b hb => a2.iv (fun e => hb (by rw [e]; omega)), fun b j _ => a2.rv id⟩
  have e0 : jiv μ3 s 0 = t := by
    rw [a2.iv (show ¬ s = s + 1 by omega), ← hμ]
    simp only [ty_setI, ty_setR, ty_rowI, ty_rowR, jk_setI, jk_setR, jk_rowI, jk_rowR, jl_setI, jl_setR, jl_rowI, jl_rowR, sz_setI, sz_setR, sz_rowI, sz_rowR, ext_setI, ext_setR, iv_setI, iv_setR, iv_rowI, iv_rowR, rv_setI, rv_setR, rv_rowI, rv_rowR, iv_setIn, iv_rowIn, rv_setRn, rv_rowRn, iv_rowIe, rv_rowRe, show ¬ (0 : Nat) = 1 by decide, and_false, if_false, and_self, if_true]
  have e1 : jiv μ3 s 1 = N n := by
    rw [a2.iv (show ¬ s = s + 1 by omega), ← hμ]
    simp only [ty_setI, ty_setR, ty_rowI, ty_rowR, jk_setI, jk_setR, jk_rowI, jk_rowR, jl_setI, jl_setR, jl_rowI, jl_rowR, sz_setI, sz_setR, sz_rowI, sz_rowR, ext_setI, ext_setR, iv_setI, iv_setR, iv_rowI, iv_rowR, rv_setI, rv_setR, rv_rowI, rv_rowR, iv_setIn, iv_rowIn, rv_setRn, rv_rowRn, iv_rowIe, rv_rowRe, and_self, if_true]
  have ev : vS μ3 s = n := by unfold vS; rw [e1, N_nat (by omega)]
  refine ⟨μ3, ?_, F3, ⟨⟨by rw [F3.kk]; exact k0, by rw [F3.rv id]; exact r2, by rw [F3.kk]; exact k1, by rw [F3.ll]; exact l1⟩, by rw [ev]; exact e1, by omega, by rw [e0]; exact ht⟩, ?_, e0⟩
  · rw [jC_run (by decide)]
    show jR (d + 1) 126 0 [.ref s, .int t, .int (N n)] [] μ = _
    have k2 : jk μ2 s = 9 := by rw [F2.kk]; exact k0
    have r2' : jrv μ2 s 2 = some (s + 1) := by rw [F2.rv id]; exact r2
    simp only [b126_0, gI9, gR9, pI9, pR9, rv9, aI_eq, aB_eq, aR_eq, sI_eq, sB_eq, sR_eq, Option.bind_some, Option.bind_none, if_true, if_false, true_or, or_true, false_or, or_false, true_and, and_true, false_and, and_false, decide_eq_true_eq, decide_true, decide_false, eq_self, not_true_eq_false, not_false_eq_true, jfit0, N_lit, N_add, N_mul, NEG_eq, pl_none, pl_some, rf_some, rf_none, jun_ref, jun_null, ir_ref, ir_null, jr_rf, jun_rf, Option.toList_some, Option.toList_none, List.nil_append, List.cons_append, jk_setI, k0, hμ, k2, r2', a1, b126_18]
  · unfold shL
    rw [ev]
    apply List.ext_getElem?
    intro j
    rw [List.getElem?_map, List.getElem?_replicate]
    by_cases hj : j < n
    · rw [List.getElem?_range hj, if_pos hj, Option.map_some, a3, if_pos (by rw [F2.ll, l1]; omega)]
    · rw [List.getElem?_eq_none (by rw [List.length_range]; omega), if_neg hj]; rfl
theorem shL_set {j : Nat} (h : SV μ s) (hj : j < vS μ s) : SV (jsetI μ (s + 1) j v) s ∧ shL (jsetI μ (s + 1) j v) s = (shL μ s).set j v ∧ jiv (jsetI μ (s + 1) j v) s 0 = jiv μ s 0 := by
  have e0 : jiv (jsetI μ (s + 1) j v) s = jiv μ s := by simp only [ty_setI, ty_setR, ty_rowI, ty_rowR, jk_setI, jk_setR, jk_rowI, jk_rowR, jl_setI, jl_setR, jl_rowI, jl_rowR, sz_setI, sz_setR, sz_rowI, sz_rowR, ext_setI, ext_setR, iv_setI, iv_setR, iv_rowI, iv_rowR, rv_setI, rv_setR, rv_rowI, rv_rowR, iv_setIn, iv_rowIn, rv_setRn, rv_rowRn, iv_rowIe, rv_rowRe, show ¬ s = s + 1 by omega, not_false_eq_true]
  have ev : vS (jsetI μ (s + 1) j v) s = vS μ s := by unfold vS; rw [e0]
  refine ⟨?_, ?_, by rw [e0]⟩
  · unfold SV
    rw [e0, ev]
    exact h
  · unfold shL
    rw [ev]
    apply List.ext_getElem?
    intro i
    rw [List.getElem?_set, List.getElem?_map, List.getElem?_map, List.length_map, List.length_range]
    by_cases e : j = i
    · subst e
      rw [if_pos rfl, if_pos hj, List.getElem?_range hj, Option.map_some]
      simp only [ty_setI, ty_setR, ty_rowI, ty_rowR, jk_setI, jk_setR, jk_rowI, jk_rowR, jl_setI, jl_setR, jl_rowI, jl_rowR, sz_setI, sz_setR, sz_rowI, sz_rowR, ext_setI, ext_setR, iv_setI, iv_setR, iv_rowI, iv_rowR, rv_setI, rv_setR, rv_rowI, rv_rowR, iv_setIn, iv_rowIn, rv_setRn, rv_rowRn, iv_rowIe, rv_rowRe, and_self, if_true]
    · rw [if_neg e]
      by_cases hi : i < vS μ s
      · rw [List.getElem?_range hi, Option.map_some, Option.map_some]
        simp only [ty_setI, ty_setR, ty_rowI, ty_rowR, jk_setI, jk_setR, jk_rowI, jk_rowR, jl_setI, jl_setR, jl_rowI, jl_rowR, sz_setI, sz_setR, sz_rowI, sz_rowR, ext_setI, ext_setR, iv_setI, iv_setR, iv_rowI, iv_rowR, rv_setI, rv_setR, rv_rowI, rv_rowR, iv_setIn, iv_rowIn, rv_setRn, rv_rowRn, iv_rowIe, rv_rowRe, show ¬ i = j by omega, and_false, if_false]
      · rw [List.getElem?_eq_none (by rw [List.length_range]; omega)]; rfl
theorem x_shSet {j : Nat} (h : SV μ s) (hj : j < vS μ s) : ∃ μ', jC (d + 1) 127 [.ref s, .int (N j), .int v] μ = some (none, μ') ∧ FSh s μ μ' ∧ SV μ' s ∧ shL μ' s = (shL μ s).set j (shv (jiv μ s 0) v) ∧ jiv μ' s 0 = jiv μ s 0 := by
  have h40 := h.2.2.1
  have hi := x_hasItems (d := d) (i := N j) (m := N 1) h
  rw [pN_pos (HI_N h40 hj)] at hi
  obtain ⟨a1, a2, a3⟩ := shL_set (v := shv (jiv μ s 0) v) h hj
  refine ⟨jsetI μ (s + 1) j (shv (jiv μ s 0) v), ?_, ?_, a1, a2, a3⟩
  · rw [jC_run (by decide)]
    show jR (d + 1) 127 0 [.ref s, .int (N j), .int v] [] μ = _
    unfold shv
    simp only [b127_0, b127_6, b127_27, b127_28, gI9, gR9, pI9, pR9, rv9, aI_eq, aB_eq, aR_eq, sI_eq, sB_eq, sR_eq, Option.bind_some, Option.bind_none, if_true, if_false, true_or, or_true, false_or, or_false, true_and, and_true, false_and, and_false, decide_eq_true_eq, decide_true, decide_false, eq_self, not_true_eq_false, not_false_eq_true, jfit0, N_lit, N_add, N_mul, NEG_eq, pl_none, pl_some, rf_some, rf_none, jun_ref, jun_null, ir_ref, ir_null, jr_rf, jun_rf, Option.toList_some, Option.toList_none, List.nil_append, List.cons_append, n10, rv9, h.1.1, h.1.2.1, hi, h.1.2.2.1, h.1.2.2.2, jinb_N (show j < 2147483648 by omega), show j < 40 by omega, N_nat (show j < 2147483648 by omega)]
    split <;> rfl
  · refine Fx.setI Fx.refl ?_
    show s ≤ s + 1 ∧ s + 1 < s + 2; omega
end SHEET
