/-! ASKING: its shape, its stack, its single steps -/
def AQ (μ : jM) (q : Nat) : Prop := (jk μ q = 2 ∧ jk μ (q + 1) = 20 ∧ jl μ (q + 1) = 24 ∧ jk μ (q + 2) = 20 ∧ jl μ (q + 2) = 24 ∧ jk μ (q + 3) = 20 ∧ jl μ (q + 3) = 960) ∧ jrv μ q 2 = some (q + 1) ∧ jrv μ q 3 = some (q + 2) ∧ jrv μ q 4 = some (q + 3)
def AF (q : Nat) (μ μ' : jM) : Prop := Fx (fun a => q ≤ a ∧ a < q + 4) (fun _ _ => False) μ μ'
def AX (μ : jM) (q D g : Nat) (G : List (RW (List Tk))) : Prop := AQ μ q ∧ jrv μ q 0 = some g ∧ GV μ D g ∧ dG μ (xA g) = G ∧ q + 4 ≤ D ∧ (g + 6 ≤ q ∨ q + 4 ≤ g)
/-- what is known of each cell: being asked, not asked yet, asked -/
def AI (G : List (RW (List Tk))) (μ : jM) (q : Nat) (S : List Nat) : Prop := ∀ c, c < 24 → (jiv μ (q + 1) c = N 1 ∧ c ∈ S) ∨ (jiv μ (q + 1) c = N 0 ∧ c ∉ S) ∨ (jiv μ (q + 1) c = N 2 ∧ c ∉ S ∧ vlC G (c / 3) (c % 3) = (N 0, jiv μ (q + 2) c))
def AC1 (μ : jM) (q D g : Nat) (G : List (RW (List Tk))) (f : Nat) (e0 : Ex) : Prop := AX μ q D g G ∧ FS μ D f ∧ ftk μ f = tks e0 ∧ ford μ f = (ords 0 e0).map N
/-- behind a step: the stack is one higher, with the value on top -/
def SP (G : List (RW (List Tk))) (q : Nat) (S : List Nat) (h : Nat) (r : VT) (μ μ' : jM) : Prop := AF q μ μ' ∧ jiv μ' q 1 = r.1 ∧ (∀ j, j < h → jiv μ' (q + 3) j = jiv μ (q + 3) j) ∧ (r.1 = N 0 → jiv μ' q 5 = N (h + 1) ∧ jiv μ' (q + 3) h = r.2 ∧ AI G μ' q S)
/-- behind a cell's asking -/
def PA (G : List (RW (List Tk))) (q : Nat) (S : List Nat) (h : Nat) (r : VT) (μ μ' : jM) : Prop := AF q μ μ' ∧ jiv μ' q 1 = r.1 ∧ jiv μ' q 5 = N h ∧ (∀ j, j < h → jiv μ' (q + 3) j = jiv μ (q + 3) j) ∧ (r.1 = N 0 → AI G μ' q S)
section ASK
variable {μ μ' μ'' : jM} {q D g h d f b n : Nat} {G : List (RW (List Tk))} {S : List Nat} {v x y : Int32} {e0 : Ex} {r : VT}
theorem AF.refl : AF q μ μ := Fx.refl
theorem AF.trans (a : AF q μ μ') (b : AF q μ' μ'') : AF q μ μ'' := Fx.trans a b
theorem AF.setI {a k : Nat} (F : AF q μ μ') (ha : q ≤ a ∧ a < q + 4) : AF q μ (jsetI μ' a k v) := by refine Fx.setI F ?_; show q ≤ a ∧ a < q + 4; exact ha
theorem AF.rv (F : AF q μ μ') (a j : Nat) : jrv μ' a j = jrv μ a j := Fx.rv F id
theorem AQ.fr (h : AQ μ q) (F : AF q μ μ') : AQ μ' q := by
  unfold AQ
  simp only [F.kk, F.ll, F.rv]
  exact h
theorem AX.fr (h : AX μ q D g G) (F : AF q μ μ') : AX μ' q D g G := by
  obtain ⟨h1, h2, h3, h4, h5, h6⟩ := h
  obtain ⟨g1, g2⟩ := h3.outx F (fun a ha => ⟨by omega, by omega⟩) (fun _ _ k => k.elim)
  exact ⟨h1.fr F, by rw [F.rv]; exact h2, g1, g2.trans h4, h5, h6⟩
theorem AC1.fr (h : AC1 μ q D g G f e0) (F : AF q μ μ') : AC1 μ' q D g G f e0 := by
  obtain ⟨h1, h2, h3, h4⟩ := h
  obtain ⟨g1, g2, g3⟩ := (Fx.fd (D := D) F (fun a ha => by have := h1.2.2.2.2.1; omega) (fun _ _ k => k.elim)).fs h2
  exact ⟨h1.fr F, g1, g2.trans h3, g3.trans h4⟩
theorem AI.fr (h : AI G μ q S) (h1 : jiv μ' (q + 1) = jiv μ (q + 1)) (h2 : jiv μ' (q + 2) = jiv μ (q + 2)) : AI G μ' q S := by
  unfold AI
  rw [h1, h2]
  exact h
theorem SP.trans {h' : Nat} {r' : VT} (a : AF q μ μ') (hs : ∀ j, j < h → jiv μ' (q + 3) j = jiv μ (q + 3) j) (b : SP G q S h' r μ' μ'') (hh : h ≤ h') (hb : r.1 = N 0 → h = h') (e : r.1 = r'.1 ∧ (r.1 = N 0 → r.2 = r'.2)) : SP G q S h r' μ μ'' := by
  obtain ⟨b1, b2, b3, b4⟩ := b
  refine ⟨a.trans b1, b2.trans e.1, fun j hj => (b3 j (by omega)).trans (hs j hj), fun g => ?_⟩
  have g' : r.1 = N 0 := e.1.trans g
  obtain ⟨c1, c2, c3⟩ := b4 g'
  rw [← hb g'] at c1 c2
  exact ⟨c1, c2.trans (e.2 g'), c3⟩
theorem x_push (h : AQ μ q) (hh : jiv μ q 5 = N n) (hn : n < 960) : jC d 63 [.ref q, .int v] μ = some (none, jsetI (jsetI μ (q + 3) n v) q 5 (N (n + 1))) := by
  obtain ⟨⟨k0, k1, l1, k2, l2, k3, l3⟩, r1, r2, r3⟩ := h
  have bn : n < 2147483648 := by omega
  rw [jC_run (by decide)]
  show jR d 63 0 [.ref q, .int v] [] μ = _
  simp only [b63_0, b63_32, gI2, gR2, pI2, pR2, rv2, aI_eq, aB_eq, aR_eq, sI_eq, sB_eq, sR_eq, Option.bind_some, Option.bind_none, if_true, if_false, true_or, or_true, false_or, or_false, true_and, and_true, false_and, and_false, decide_eq_true_eq, decide_true, decide_false, eq_self, not_true_eq_false, not_false_eq_true, jfit0, N_lit, N_add, N_mul, NEG_eq, pl_none, pl_some, rf_some, rf_none, jun_ref, jun_null, ir_ref, ir_null, jr_rf, jun_rf, Option.toList_some, Option.toList_none, List.nil_append, List.cons_append, ty_setI, ty_setR, ty_rowI, ty_rowR, jk_setI, jk_setR, jk_rowI, jk_rowR, jl_setI, jl_setR, jl_rowI, jl_rowR, sz_setI, sz_setR, sz_rowI, sz_rowR, ext_setI, ext_setR, iv_setI, iv_setR, iv_rowI, iv_rowR, rv_setI, rv_setR, rv_rowI, rv_rowR, iv_setIn, iv_rowIn, rv_setRn, rv_rowRn, iv_rowIe, rv_rowRe, k0, k3, l3, r3, hh, alen_of k3 (by decide), N_lt bn (show 960 < 2147483648 by decide), hn, jinb_N bn, N_nat bn, show ¬ q = q + 3 by omega]
theorem x_pop (h : AQ μ q) (hh : jiv μ q 5 = N (n + 1)) (hn : n < 960) : jC d 65 [.ref q] μ = some (some (.int (jiv μ (q + 3) n)), jsetI μ q 5 (N n)) := by
  obtain ⟨⟨k0, k1, l1, k2, l2, k3, l3⟩, r1, r2, r3⟩ := h
  have bn : n < 2147483648 := by omega
  rw [jC_run (by decide)]
  show jR d 65 0 [.ref q] [] μ = _
  simp only [b65_0, gI2, gR2, pI2, pR2, rv2, aI_eq, aB_eq, aR_eq, sI_eq, sB_eq, sR_eq, Option.bind_some, Option.bind_none, if_true, if_false, true_or, or_true, false_or, or_false, true_and, and_true, false_and, and_false, decide_eq_true_eq, decide_true, decide_false, eq_self, not_true_eq_false, not_false_eq_true, jfit0, N_lit, N_add, N_mul, NEG_eq, pl_none, pl_some, rf_some, rf_none, jun_ref, jun_null, ir_ref, ir_null, jr_rf, jun_rf, Option.toList_some, Option.toList_none, List.nil_append, List.cons_append, ty_setI, ty_setR, ty_rowI, ty_rowR, jk_setI, jk_setR, jk_rowI, jk_rowR, jl_setI, jl_setR, jl_rowI, jl_rowR, sz_setI, sz_setR, sz_rowI, sz_rowR, ext_setI, ext_setR, iv_setI, iv_setR, iv_rowI, iv_rowR, rv_setI, rv_setR, rv_rowI, rv_rowR, iv_setIn, iv_rowIn, rv_setRn, rv_rowRn, iv_rowIe, rv_rowRe, k0, k3, l3, r3, hh, N_lt (show n + 1 < 2147483648 by omega) (show 1 < 2147483648 by decide), show ¬ n + 1 < 1 by omega, N_sub (show 1 ≤ n + 1 by omega), Nat.add_sub_cancel, jinb_N bn, N_nat bn, hn, show ¬ q + 3 = q by omega]
/-- a token of the tree's tokens -/
theorem tk_at {t : Tk} {A B : List Tk} (hs : FS μ D f) (ht : ftk μ f = A ++ t :: B) (hA : A.length = b) : b < jl μ (fa μ f 0) ∧ b < 40 ∧ jiv μ (fa μ f 0) b = t.1 ∧ jiv μ (fa μ f 1) b = t.2.1 ∧ jiv μ (fa μ f 2) b = t.2.2 := by
  have hl := len_fT (μ := μ) (f := f)
  rw [ht, List.length_append, List.length_cons] at hl
  have hb : b < jl μ (fa μ f 0) := by omega
  have h6 := hs.2.2.2.2.2.1
  have hg := fT_get hb
  rw [ht, List.getElem?_append_right (by omega), show b - A.length = 0 by omega, List.getElem?_cons_zero] at hg
  obtain ⟨t1, t2, t3⟩ := t
  simp only [Option.some.injEq, Prod.mk.injEq] at hg
  exact ⟨hb, by omega, hg.1.symm, hg.2.1.symm, hg.2.2.symm⟩
theorem z4 : (0 : Nat) < 4 ∧ (1 : Nat) < 4 ∧ (2 : Nat) < 4 ∧ (3 : Nat) < 4 := by decide
/-- how the token is read when a step begins -/
theorem st_num {A B : List Tk} {w : Nat} {dp : Int32} (hc : AC1 μ q D g G f e0) (ht : tks e0 = A ++ (N 48, N w, N 0) :: B) (hA : A.length = b) (hw : jiv μ q 1 = N 0) (hh : jiv μ q 5 = N h) (hn : h < 960) (hi : AI G μ q S) : ∃ μ', jC (d + 1) 62 [.ref q, .ref f, .int (N b), .int dp] μ = some (none, μ') ∧ SP G q S h (N 0, N w) μ μ' := by
  obtain ⟨hx, hf, hT, hO⟩ := hc
  obtain ⟨t1, t2, t3, t4, t5⟩ := tk_at hf (hT.trans ht) hA
  have bb : b < 2147483648 := by omega
  have hq := hx.1
  refine ⟨jsetI (jsetI μ (q + 3) h (N w)) q 5 (N (h + 1)), ?_, ?_⟩
  · rw [jC_run (by decide)]
    show jR (d + 1) 62 0 [.ref q, .ref f, .int (N b), .int dp] [] μ = _
    simp only [b62_0, b62_82, b62_171, gI2, gR2, pI2, pR2, rv2, gI5, gR5, pI5, pR5, rv5, aI_eq, aB_eq, aR_eq, sI_eq, sB_eq, sR_eq, Option.bind_some, Option.bind_none, if_true, if_false, true_or, or_true, false_or, or_false, true_and, and_true, false_and, and_false, decide_eq_true_eq, decide_true, decide_false, eq_self, not_true_eq_false, not_false_eq_true, jfit0, N_lit, N_add, N_mul, NEG_eq, pl_none, pl_some, rf_some, rf_none, jun_ref, jun_null, ir_ref, ir_null, jr_rf, jun_rf, Option.toList_some, Option.toList_none, List.nil_append, List.cons_append, show (N 48 = N 42) = False from N_ne (by decide) (by decide) (by decide), show (N 48 = N 43) = False from N_ne (by decide) (by decide) (by decide), show (N 48 = N 45) = False from N_ne (by decide) (by decide) (by decide), hq.1.1, hf.1, hf.r z4.1, hf.r z4.2.1, hf.k z4.1, hf.k z4.2.1, hf.2.2.2.1, jinb_N bb, t1, N_nat bb, t3, t4, x_push hq hh hn]
  · refine ⟨AF.setI (AF.setI AF.refl (by omega)) (by omega), ?_, fun j hj => ?_, fun _ => ⟨?_, ?_, hi.fr ?_ ?_⟩⟩
    · simp only [ty_setI, ty_setR, ty_rowI, ty_rowR, jk_setI, jk_setR, jk_rowI, jk_rowR, jl_setI, jl_setR, jl_rowI, jl_rowR, sz_setI, sz_setR, sz_rowI, sz_rowR, ext_setI, ext_setR, iv_setI, iv_setR, iv_rowI, iv_rowR, rv_setI, rv_setR, rv_rowI, rv_rowR, iv_setIn, iv_rowIn, rv_setRn, rv_rowRn, iv_rowIe, rv_rowRe, show ¬ q = q + 3 by omega, false_and, and_false, if_false, show ¬ (1 : Nat) = 5 by decide]; exact hw
    · simp only [ty_setI, ty_setR, ty_rowI, ty_rowR, jk_setI, jk_setR, jk_rowI, jk_rowR, jl_setI, jl_setR, jl_rowI, jl_rowR, sz_setI, sz_setR, sz_rowI, sz_rowR, ext_setI, ext_setR, iv_setI, iv_setR, iv_rowI, iv_rowR, rv_setI, rv_setR, rv_rowI, rv_rowR, iv_setIn, iv_rowIn, rv_setRn, rv_rowRn, iv_rowIe, rv_rowRe, show ¬ q + 3 = q by omega, false_and, if_false, show ¬ j = h by omega, and_false]
    · simp only [ty_setI, ty_setR, ty_rowI, ty_rowR, jk_setI, jk_setR, jk_rowI, jk_rowR, jl_setI, jl_setR, jl_rowI, jl_rowR, sz_setI, sz_setR, sz_rowI, sz_rowR, ext_setI, ext_setR, iv_setI, iv_setR, iv_rowI, iv_rowR, rv_setI, rv_setR, rv_rowI, rv_rowR, iv_setIn, iv_rowIn, rv_setRn, rv_rowRn, iv_rowIe, rv_rowRe, and_self, if_true]
    · simp only [ty_setI, ty_setR, ty_rowI, ty_rowR, jk_setI, jk_setR, jk_rowI, jk_rowR, jl_setI, jl_setR, jl_rowI, jl_rowR, sz_setI, sz_setR, sz_rowI, sz_rowR, ext_setI, ext_setR, iv_setI, iv_setR, iv_rowI, iv_rowR, rv_setI, rv_setR, rv_rowI, rv_rowR, iv_setIn, iv_rowIn, rv_setRn, rv_rowRn, iv_rowIe, rv_rowRe, show ¬ q + 3 = q by omega, false_and, if_false, and_self, if_true]
    · simp only [ty_setI, ty_setR, ty_rowI, ty_rowR, jk_setI, jk_setR, jk_rowI, jk_rowR, jl_setI, jl_setR, jl_rowI, jl_rowR, sz_setI, sz_setR, sz_rowI, sz_rowR, ext_setI, ext_setR, iv_setI, iv_setR, iv_rowI, iv_rowR, rv_setI, rv_setR, rv_rowI, rv_rowR, iv_setIn, iv_rowIn, rv_setRn, rv_rowRn, iv_rowIe, rv_rowRe, show ¬ q + 1 = q by omega, show ¬ q + 1 = q + 3 by omega, not_false_eq_true]
    · simp only [ty_setI, ty_setR, ty_rowI, ty_rowR, jk_setI, jk_setR, jk_rowI, jk_rowR, jl_setI, jl_setR, jl_rowI, jl_rowR, sz_setI, sz_setR, sz_rowI, sz_rowR, ext_setI, ext_setR, iv_setI, iv_setR, iv_rowI, iv_rowR, rv_setI, rv_setR, rv_rowI, rv_rowR, iv_setIn, iv_rowIn, rv_setRn, rv_rowRn, iv_rowIe, rv_rowRe, show ¬ q + 2 = q by omega, show ¬ q + 2 = q + 3 by omega, not_false_eq_true]
theorem st_neg {A B : List Tk} {dp : Int32} (hc : AC1 μ q D g G f e0) (ht : tks e0 = A ++ (N 103, N 0, N 0) :: B) (hA : A.length = b) (hw : jiv μ q 1 = N 0) (hh : jiv μ q 5 = N (h + 1)) (hn : h < 960) (hi : AI G μ q S) : ∃ μ', jC (d + 1) 62 [.ref q, .ref f, .int (N b), .int dp] μ = some (none, μ') ∧ SP G q S h (N 0, -jiv μ (q + 3) h) μ μ' := by
  obtain ⟨hx, hf, hT, hO⟩ := hc
  obtain ⟨t1, t2, t3, t4, t5⟩ := tk_at hf (hT.trans ht) hA
  have bb : b < 2147483648 := by omega
  have hq := hx.1
  have F1 : AF q μ (jsetI μ q 5 (N h)) := AF.setI AF.refl (by omega)
  have hq1 := hq.fr F1
  have e5 : jiv (jsetI μ q 5 (N h)) q 5 = N h := by simp only [ty_setI, ty_setR, ty_rowI, ty_rowR, jk_setI, jk_setR, jk_rowI, jk_rowR, jl_setI, jl_setR, jl_rowI, jl_rowR, sz_setI, sz_setR, sz_rowI, sz_rowR, ext_setI, ext_setR, iv_setI, iv_setR, iv_rowI, iv_rowR, rv_setI, rv_setR, rv_rowI, rv_rowR, iv_setIn, iv_rowIn, rv_setRn, rv_rowRn, iv_rowIe, rv_rowRe, and_self, if_true]
  refine ⟨jsetI (jsetI (jsetI μ q 5 (N h)) (q + 3) h (-jiv μ (q + 3) h)) q 5 (N (h + 1)), ?_, ?_⟩
  · rw [jC_run (by decide)]
    show jR (d + 1) 62 0 [.ref q, .ref f, .int (N b), .int dp] [] μ = _
    simp only [b62_0, b62_104, b62_108, b62_171, gI2, gR2, pI2, pR2, rv2, gI5, gR5, pI5, pR5, rv5, aI_eq, aB_eq, aR_eq, sI_eq, sB_eq, sR_eq, Option.bind_some, Option.bind_none, if_true, if_false, true_or, or_true, false_or, or_false, true_and, and_true, false_and, and_false, decide_eq_true_eq, decide_true, decide_false, eq_self, not_true_eq_false, not_false_eq_true, jfit0, N_lit, N_add, N_mul, NEG_eq, pl_none, pl_some, rf_some, rf_none, jun_ref, jun_null, ir_ref, ir_null, jr_rf, jun_rf, Option.toList_some, Option.toList_none, List.nil_append, List.cons_append, show (N 103 = N 42) = False from N_ne (by decide) (by decide) (by decide), show (N 103 = N 43) = False from N_ne (by decide) (by decide) (by decide), show (N 103 = N 45) = False from N_ne (by decide) (by decide) (by decide), show (N 103 = N 48) = False from N_ne (by decide) (by decide) (by decide), hq.1.1, hq1.1.1, hf.1, hf.r z4.1, hf.k z4.1, jinb_N bb, t1, N_nat bb, t3, x_pop hq hh hn, x_push hq1 e5 hn]
  · refine ⟨AF.setI (AF.setI F1 (by omega)) (by omega), ?_, fun j hj => ?_, fun _ => ⟨?_, ?_, hi.fr ?_ ?_⟩⟩
    · simp only [ty_setI, ty_setR, ty_rowI, ty_rowR, jk_setI, jk_setR, jk_rowI, jk_rowR, jl_setI, jl_setR, jl_rowI, jl_rowR, sz_setI, sz_setR, sz_rowI, sz_rowR, ext_setI, ext_setR, iv_setI, iv_setR, iv_rowI, iv_rowR, rv_setI, rv_setR, rv_rowI, rv_rowR, iv_setIn, iv_rowIn, rv_setRn, rv_rowRn, iv_rowIe, rv_rowRe, show ¬ q = q + 3 by omega, false_and, and_false, if_false, show ¬ (1 : Nat) = 5 by decide]; exact hw
    · simp only [ty_setI, ty_setR, ty_rowI, ty_rowR, jk_setI, jk_setR, jk_rowI, jk_rowR, jl_setI, jl_setR, jl_rowI, jl_rowR, sz_setI, sz_setR, sz_rowI, sz_rowR, ext_setI, ext_setR, iv_setI, iv_setR, iv_rowI, iv_rowR, rv_setI, rv_setR, rv_rowI, rv_rowR, iv_setIn, iv_rowIn, rv_setRn, rv_rowRn, iv_rowIe, rv_rowRe, show ¬ q + 3 = q by omega, false_and, if_false, show ¬ j = h by omega, and_false]
    · simp only [ty_setI, ty_setR, ty_rowI, ty_rowR, jk_setI, jk_setR, jk_rowI, jk_rowR, jl_setI, jl_setR, jl_rowI, jl_rowR, sz_setI, sz_setR, sz_rowI, sz_rowR, ext_setI, ext_setR, iv_setI, iv_setR, iv_rowI, iv_rowR, rv_setI, rv_setR, rv_rowI, rv_rowR, iv_setIn, iv_rowIn, rv_setRn, rv_rowRn, iv_rowIe, rv_rowRe, and_self, if_true]
    · simp only [ty_setI, ty_setR, ty_rowI, ty_rowR, jk_setI, jk_setR, jk_rowI, jk_rowR, jl_setI, jl_setR, jl_rowI, jl_rowR, sz_setI, sz_setR, sz_rowI, sz_rowR, ext_setI, ext_setR, iv_setI, iv_setR, iv_rowI, iv_rowR, rv_setI, rv_setR, rv_rowI, rv_rowR, iv_setIn, iv_rowIn, rv_setRn, rv_rowRn, iv_rowIe, rv_rowRe, show ¬ q + 3 = q by omega, false_and, if_false, and_self, if_true]
    · simp only [ty_setI, ty_setR, ty_rowI, ty_rowR, jk_setI, jk_setR, jk_rowI, jk_rowR, jl_setI, jl_setR, jl_rowI, jl_rowR, sz_setI, sz_setR, sz_rowI, sz_rowR, ext_setI, ext_setR, iv_setI, iv_setR, iv_rowI, iv_rowR, rv_setI, rv_setR, rv_rowI, rv_rowR, iv_setIn, iv_rowIn, rv_setRn, rv_rowRn, iv_rowIe, rv_rowRe, show ¬ q + 1 = q by omega, show ¬ q + 1 = q + 3 by omega, not_false_eq_true]
    · simp only [ty_setI, ty_setR, ty_rowI, ty_rowR, jk_setI, jk_setR, jk_rowI, jk_rowR, jl_setI, jl_setR, jl_rowI, jl_rowR, sz_setI, sz_setR, sz_rowI, sz_rowR, ext_setI, ext_setR, iv_setI, iv_setR, iv_rowI, iv_rowR, rv_setI, rv_setR, rv_rowI, rv_rowR, iv_setIn, iv_rowIn, rv_setRn, rv_rowRn, iv_rowIe, rv_rowRe, show ¬ q + 2 = q by omega, show ¬ q + 2 = q + 3 by omega, not_false_eq_true]
/-- what a sign makes of two -/
def binv (s : Int32) (x y : Int32) : Int32 := if s = N 43 then x + y else if s = N 45 then x - y else x * y
theorem st_bin {A B : List Tk} {dp s : Int32} (hs : s = N 43 ∨ s = N 45 ∨ s = N 42) (hc : AC1 μ q D g G f e0) (ht : tks e0 = A ++ (s, N 0, N 0) :: B) (hA : A.length = b) (hw : jiv μ q 1 = N 0) (hh : jiv μ q 5 = N (h + 2)) (hn : h + 1 < 960) (hi : AI G μ q S) : ∃ μ', jC (d + 1) 62 [.ref q, .ref f, .int (N b), .int dp] μ = some (none, μ') ∧ SP G q S h (N 0, binv s (jiv μ (q + 3) h) (jiv μ (q + 3) (h + 1))) μ μ' := by
  obtain ⟨hx, hf, hT, hO⟩ := hc
  obtain ⟨t1, t2, t3, t4, t5⟩ := tk_at hf (hT.trans ht) hA
  have bb : b < 2147483648 := by omega
  have hq := hx.1
  have F1 : AF q μ (jsetI μ q 5 (N (h + 1))) := AF.setI AF.refl (by omega)
  have hq1 := hq.fr F1
  have e5 : jiv (jsetI μ q 5 (N (h + 1))) q 5 = N (h + 1) := by simp only [ty_setI, ty_setR, ty_rowI, ty_rowR, jk_setI, jk_setR, jk_rowI, jk_rowR, jl_setI, jl_setR, jl_rowI, jl_rowR, sz_setI, sz_setR, sz_rowI, sz_rowR, ext_setI, ext_setR, iv_setI, iv_setR, iv_rowI, iv_rowR, rv_setI, rv_setR, rv_rowI, rv_rowR, iv_setIn, iv_rowIn, rv_setRn, rv_rowRn, iv_rowIe, rv_rowRe, and_self, if_true]
  have F2 : AF q μ (jsetI (jsetI μ q 5 (N (h + 1))) q 5 (N h)) := AF.setI F1 (by omega)
  have hq2 := hq.fr F2
  have e6 : jiv (jsetI (jsetI μ q 5 (N (h + 1))) q 5 (N h)) q 5 = N h := by simp only [ty_setI, ty_setR, ty_rowI, ty_rowR, jk_setI, jk_setR, jk_rowI, jk_rowR, jl_setI, jl_setR, jl_rowI, jl_rowR, sz_setI, sz_setR, sz_rowI, sz_rowR, ext_setI, ext_setR, iv_setI, iv_setR, iv_rowI, iv_rowR, rv_setI, rv_setR, rv_rowI, rv_rowR, iv_setIn, iv_rowIn, rv_setRn, rv_rowRn, iv_rowIe, rv_rowRe, and_self, if_true]
  have ex : jiv (jsetI μ q 5 (N (h + 1))) (q + 3) h = jiv μ (q + 3) h := by simp only [ty_setI, ty_setR, ty_rowI, ty_rowR, jk_setI, jk_setR, jk_rowI, jk_rowR, jl_setI, jl_setR, jl_rowI, jl_rowR, sz_setI, sz_setR, sz_rowI, sz_rowR, ext_setI, ext_setR, iv_setI, iv_setR, iv_rowI, iv_rowR, rv_setI, rv_setR, rv_rowI, rv_rowR, iv_setIn, iv_rowIn, rv_setRn, rv_rowRn, iv_rowIe, rv_rowRe, show ¬ q + 3 = q by omega, false_and, if_false]
  have hn' : h < 960 := by omega
  have key : ∀ w, SP G q S h (N 0, w) μ (jsetI (jsetI (jsetI (jsetI μ q 5 (N (h + 1))) q 5 (N h)) (q + 3) h w) q 5 (N (h + 1))) := by
    intro w
    refine ⟨AF.setI (AF.setI F2 (by omega)) (by omega), ?_, fun j hj => ?_, fun _ => ⟨?_, ?_, hi.fr ?_ ?_⟩⟩
    · simp only [ty_setI, ty_setR, ty_rowI, ty_rowR, jk_setI, jk_setR, jk_rowI, jk_rowR, jl_setI, jl_setR, jl_rowI, jl_rowR, sz_setI, sz_setR, sz_rowI, sz_rowR, ext_setI, ext_setR, iv_setI, iv_setR, iv_rowI, iv_rowR, rv_setI, rv_setR, rv_rowI, rv_rowR, iv_setIn, iv_rowIn, rv_setRn, rv_rowRn, iv_rowIe, rv_rowRe, show ¬ q = q + 3 by omega, false_and, and_false, if_false, show ¬ (1 : Nat) = 5 by decide]; exact hw
    · simp only [ty_setI, ty_setR, ty_rowI, ty_rowR, jk_setI, jk_setR, jk_rowI, jk_rowR, jl_setI, jl_setR, jl_rowI, jl_rowR, sz_setI, sz_setR, sz_rowI, sz_rowR, ext_setI, ext_setR, iv_setI, iv_setR, iv_rowI, iv_rowR, rv_setI, rv_setR, rv_rowI, rv_rowR, iv_setIn, iv_rowIn, rv_setRn, rv_rowRn, iv_rowIe, rv_rowRe, show ¬ q + 3 = q by omega, false_and, if_false, show ¬ j = h by omega, and_false]
    · simp only [ty_setI, ty_setR, ty_rowI, ty_rowR, jk_setI, jk_setR, jk_rowI, jk_rowR, jl_setI, jl_setR, jl_rowI, jl_rowR, sz_setI, sz_setR, sz_rowI, sz_rowR, ext_setI, ext_setR, iv_setI, iv_setR, iv_rowI, iv_rowR, rv_setI, rv_setR, rv_rowI, rv_rowR, iv_setIn, iv_rowIn, rv_setRn, rv_rowRn, iv_rowIe, rv_rowRe, and_self, if_true]
    · simp only [ty_setI, ty_setR, ty_rowI, ty_rowR, jk_setI, jk_setR, jk_rowI, jk_rowR, jl_setI, jl_setR, jl_rowI, jl_rowR, sz_setI, sz_setR, sz_rowI, sz_rowR, ext_setI, ext_setR, iv_setI, iv_setR, iv_rowI, iv_rowR, rv_setI, rv_setR, rv_rowI, rv_rowR, iv_setIn, iv_rowIn, rv_setRn, rv_rowRn, iv_rowIe, rv_rowRe, show ¬ q + 3 = q by omega, false_and, if_false, and_self, if_true]
    · simp only [ty_setI, ty_setR, ty_rowI, ty_rowR, jk_setI, jk_setR, jk_rowI, jk_rowR, jl_setI, jl_setR, jl_rowI, jl_rowR, sz_setI, sz_setR, sz_rowI, sz_rowR, ext_setI, ext_setR, iv_setI, iv_setR, iv_rowI, iv_rowR, rv_setI, rv_setR, rv_rowI, rv_rowR, iv_setIn, iv_rowIn, rv_setRn, rv_rowRn, iv_rowIe, rv_rowRe, show ¬ q + 1 = q by omega, show ¬ q + 1 = q + 3 by omega, not_false_eq_true]
    · simp only [ty_setI, ty_setR, ty_rowI, ty_rowR, jk_setI, jk_setR, jk_rowI, jk_rowR, jl_setI, jl_setR, jl_rowI, jl_rowR, sz_setI, sz_setR, sz_rowI, sz_rowR, ext_setI, ext_setR, iv_setI, iv_setR, iv_rowI, iv_rowR, rv_setI, rv_setR, rv_rowI, rv_rowR, iv_setIn, iv_rowIn, rv_setRn, rv_rowRn, iv_rowIe, rv_rowRe, show ¬ q + 2 = q by omega, show ¬ q + 2 = q + 3 by omega, not_false_eq_true]
  refine ⟨_, ?_, key _⟩
  rw [jC_run (by decide)]
  show jR (d + 1) 62 0 [.ref q, .ref f, .int (N b), .int dp] [] μ = _
  rcases hs with rfl | rfl | rfl
  · have ev : binv (N 43) (jiv μ (q + 3) h) (jiv μ (q + 3) (h + 1)) = jiv μ (q + 3) (h + 1) + jiv μ (q + 3) h := by
      unfold binv; rw [if_pos rfl, Int32.add_comm]
    rw [ev]
    simp only [b62_0, b62_116, b62_120, b62_124, b62_171, gI2, gR2, pI2, pR2, rv2, gI5, gR5, pI5, pR5, rv5, aI_eq, aB_eq, aR_eq, sI_eq, sB_eq, sR_eq, Option.bind_some, Option.bind_none, if_true, if_false, true_or, or_true, false_or, or_false, true_and, and_true, false_and, and_false, decide_eq_true_eq, decide_true, decide_false, eq_self, not_true_eq_false, not_false_eq_true, jfit0, N_lit, N_add, N_mul, NEG_eq, pl_none, pl_some, rf_some, rf_none, jun_ref, jun_null, ir_ref, ir_null, jr_rf, jun_rf, Option.toList_some, Option.toList_none, List.nil_append, List.cons_append, show (N 43 = N 42) = False from N_ne (by decide) (by decide) (by decide), hq.1.1, hq1.1.1, hq2.1.1, hf.1, hf.r z4.1, hf.k z4.1, jinb_N bb, t1, N_nat bb, t3, x_pop hq hh hn, x_pop hq1 e5 hn', x_push hq2 e6 hn', ex]
  · have ev : binv (N 45) (jiv μ (q + 3) h) (jiv μ (q + 3) (h + 1)) = -jiv μ (q + 3) (h + 1) + jiv μ (q + 3) h := by
      unfold binv; rw [if_neg (by decide), if_pos rfl, Int32.add_comm, Int32.sub_eq_add_neg]
    rw [ev]
    simp only [b62_0, b62_132, b62_137, b62_141, b62_171, gI2, gR2, pI2, pR2, rv2, gI5, gR5, pI5, pR5, rv5, aI_eq, aB_eq, aR_eq, sI_eq, sB_eq, sR_eq, Option.bind_some, Option.bind_none, if_true, if_false, true_or, or_true, false_or, or_false, true_and, and_true, false_and, and_false, decide_eq_true_eq, decide_true, decide_false, eq_self, not_true_eq_false, not_false_eq_true, jfit0, N_lit, N_add, N_mul, NEG_eq, pl_none, pl_some, rf_some, rf_none, jun_ref, jun_null, ir_ref, ir_null, jr_rf, jun_rf, Option.toList_some, Option.toList_none, List.nil_append, List.cons_append, show (N 45 = N 42) = False from N_ne (by decide) (by decide) (by decide), show (N 45 = N 43) = False from N_ne (by decide) (by decide) (by decide), hq.1.1, hq1.1.1, hq2.1.1, hf.1, hf.r z4.1, hf.k z4.1, jinb_N bb, t1, N_nat bb, t3, x_pop hq hh hn, x_pop hq1 e5 hn', x_push hq2 e6 hn', ex]
  · have ev : binv (N 42) (jiv μ (q + 3) h) (jiv μ (q + 3) (h + 1)) = jiv μ (q + 3) (h + 1) * jiv μ (q + 3) h := by
      unfold binv; rw [if_neg (by decide), if_neg (by decide), Int32.mul_comm]
    rw [ev]
    simp only [b62_0, b62_149, b62_153, b62_157, b62_171, gI2, gR2, pI2, pR2, rv2, gI5, gR5, pI5, pR5, rv5, aI_eq, aB_eq, aR_eq, sI_eq, sB_eq, sR_eq, Option.bind_some, Option.bind_none, if_true, if_false, true_or, or_true, false_or, or_false, true_and, and_true, false_and, and_false, decide_eq_true_eq, decide_true, decide_false, eq_self, not_true_eq_false, not_false_eq_true, jfit0, N_lit, N_add, N_mul, NEG_eq, pl_none, pl_some, rf_some, rf_none, jun_ref, jun_null, ir_ref, ir_null, jr_rf, jun_rf, Option.toList_some, Option.toList_none, List.nil_append, List.cons_append, hq.1.1, hq1.1.1, hq2.1.1, hf.1, hf.r z4.1, hf.k z4.1, jinb_N bb, t1, N_nat bb, t3, x_pop hq hh hn, x_pop hq1 e5 hn', x_push hq2 e6 hn', ex]
end ASK
