/-! ASKING: a ref, a range -/
/-- no row is of key 0 -/
def KZ (G : List (RW (List Tk))) : Prop := ∀ w, w ∈ G → w.1 ≠ N 0
/-- a cell's asking, where no more than k cells aren't asked yet -/
def AskOK (G : List (RW (List Tk))) (q D g k : Nat) : Prop := ∀ (d : Nat) (μ : jM) (S : List Nat) (h p c : Nat), AX μ q D g G → S.Nodup → (∀ s, s ∈ S → s < 24) → S.length + k = 24 → jiv μ q 1 = N 0 → jiv μ q 5 = N h → h ≤ 39 * S.length → AI G μ q S → p < G.length → c < 3 → (∀ s, s ∈ S → Dp G (s / 3, s % 3) (p, c)) → ∃ μ', jC (d + (4 * k + 5)) 60 [.ref q, .int (N p), .int (N c), .int (N S.length)] μ = some (some (.int (vlC G p c).2), μ') ∧ PA G q S h (vlC G p c) μ μ'
def finit (wd : Nat) : Int32 := if wd = 1 then -(N 2147483648) else if wd = 2 then N 2147483647 else N 0
/-- what is found so far -/
def fo (wd : Nat) : Option Int32 → Int32
  | none => finit wd
  | some x => x
section RNG
variable {μ μ' μ'' : jM} {q D g h d f b n k wd i j : Nat} {G : List (RW (List Tk))} {S : List Nat} {v x y : Int32} {e0 : Ex} {r : VT} {acc : Option Int32}
theorem lfind_key {φ : Type} {l : List (RW φ)} {kk : Int32} {i : Nat} (h : lfind kk l = some i) : ∃ w, l[i]? = some w ∧ w.1 = kk := by
  have h1 := List.findIdx?_eq_some_iff_getElem.mp h
  obtain ⟨h2, h3, -⟩ := h1
  exact ⟨l[i], List.getElem?_eq_getElem h2, by simpa using h3⟩
theorem lfind_0 (hz : KZ G) : lfind (N 0) G = none := by
  cases e : lfind (N 0) G with
  | none => rfl
  | some i =>
    obtain ⟨w, h1, h2⟩ := lfind_key e
    exact absurd h2 (hz w (List.mem_of_getElem? h1))
theorem refC_eq (hz : KZ G) : refC G i = (lfind (N (i / 8)) G).map fun p => (p, i / 2 % 4) := by
  unfold refC
  split
  · rename_i e; rw [e, lfind_0 hz]; rfl
  · rfl
theorem nd_fst {s : Nat × Nat} {x : Nat → VR} (h : Nd G s x) {c : Nat × Nat} (hx : ∀ n, x n ≠ none → evC G n c.1 c.2 ≠ none) : Dp G s c := fun n hn => hx n (h n hn)
theorem PA.refl (hw : jiv μ q 1 = r.1) (hh : jiv μ q 5 = N h) (hi : AI G μ q S) : PA G q S h r μ μ := ⟨AF.refl, hw, hh, fun _ _ => rfl, fun _ => hi⟩
theorem PA.trans {r' : VT} (a : PA G q S h r μ μ') (b : PA G q S h r' μ' μ'') : PA G q S h r' μ μ'' := ⟨a.1.trans b.1, b.2.1, b.2.2.1, fun j hj => (b.2.2.2.1 j hj).trans (a.2.2.2.1 j hj), b.2.2.2.2⟩
theorem x_askRef {dp : Nat} {A B : List Tk} (ha : AskOK G q D g k) (hz : KZ G) (hc : AC1 μ q D g G f e0) (ht : tks e0 = A ++ rT i :: B) (hA : A.length = b) (hr : rK i) (hd : S.length = dp + 1) (hS : S.Nodup) (hS2 : ∀ s, s ∈ S → s < 24) (hk : S.length + k = 24) (hw : jiv μ q 1 = N 0) (hh : jiv μ q 5 = N h) (hn : h ≤ 39 * S.length) (hi : AI G μ q S) (nd : ∀ s, s ∈ S → Nd G (s / 3, s % 3) (fun n => evL G (evC G n) i)) : ∃ μ', jC (d + (4 * k + 5) + 1) 64 [.ref q, .ref f, .int (N b), .int (N dp)] μ = some (some (.int (tL G i).2), μ') ∧ PA G q S h (tL G i) μ μ' := by
  obtain ⟨hx, hf, hT, hO⟩ := hc
  obtain ⟨t1, t2, t3, t4, t5⟩ := tk_at hf (hT.trans ht) hA
  have bb : b < 2147483648 := by omega
  have hq := hx.1
  have e4 : (rT i).2.1 = N (i / 2 % 4) := rfl
  have e5 : (rT i).2.2 = N (i / 8) := rfl
  rw [e4] at t4
  rw [e5] at t5
  have t6 := d_placeOf (d := d + (4 * k + 5)) hx.2.2.1 (N (i / 8))
  rw [hx.2.2.2.1] at t6
  have hlt : ∀ j, lfind (N (i / 8)) G = some j → j < G.length := fun j hj => lfind_lt hj
  have hG8 : G.length ≤ 8 := by rw [← hx.2.2.2.1, len_dG]; exact hx.2.2.1.2.2.1.2
  rw [jC_run (by decide)]
  show ∃ μ', jR (d + (4 * k + 5) + 1) 64 0 [.ref q, .ref f, .int (N b), .int (N dp), .retAddr 0] [] μ = _ ∧ _
  simp only [b64_0, gI2, gR2, pI2, pR2, rv2, gI5, gR5, pI5, pR5, rv5, gI6, gR6, pI6, pR6, rv6, aI_eq, aB_eq, aR_eq, sI_eq, sB_eq, sR_eq, Option.bind_some, Option.bind_none, if_true, if_false, true_or, or_true, false_or, or_false, true_and, and_true, false_and, and_false, decide_eq_true_eq, decide_true, decide_false, eq_self, not_true_eq_false, not_false_eq_true, jfit0, N_lit, N_add, N_mul, NEG_eq, pl_none, pl_some, rf_some, rf_none, jun_ref, jun_null, ir_ref, ir_null, jr_rf, jun_rf, Option.toList_some, Option.toList_none, List.nil_append, List.cons_append, hq.1.1, hx.2.1, hf.1, hf.r z4.2.2.1, hf.k z4.2.2.1, hf.2.2.2.2.1, jinb_N bb, t1, N_nat bb, t5, hx.2.2.1.2.1.1, t6]
  unfold evL at nd
  unfold tL
  have hrc := refC_eq (i := i) hz
  cases e : lfind (N (i / 8)) G with
  | none =>
    rw [e] at hrc
    rw [show refC G i = none from hrc]
    refine ⟨jsetI μ q 1 LO, ?_, AF.setI AF.refl (by omega), ?_, ?_, fun j hj => ?_, fun g => absurd g lo_ne⟩
    · simp only [b64_13, gI2, gR2, pI2, pR2, rv2, aI_eq, aB_eq, aR_eq, sI_eq, sB_eq, sR_eq, Option.bind_some, Option.bind_none, if_true, if_false, true_or, or_true, false_or, or_false, true_and, and_true, false_and, and_false, decide_eq_true_eq, decide_true, decide_false, eq_self, not_true_eq_false, not_false_eq_true, jfit0, N_lit, N_add, N_mul, NEG_eq, pl_none, pl_some, rf_some, rf_none, jun_ref, jun_null, ir_ref, ir_null, jr_rf, jun_rf, Option.toList_some, Option.toList_none, List.nil_append, List.cons_append, hq.1.1]
    · simp only [ty_setI, ty_setR, ty_rowI, ty_rowR, jk_setI, jk_setR, jk_rowI, jk_rowR, jl_setI, jl_setR, jl_rowI, jl_rowR, sz_setI, sz_setR, sz_rowI, sz_rowR, ext_setI, ext_setR, iv_setI, iv_setR, iv_rowI, iv_rowR, rv_setI, rv_setR, rv_rowI, rv_rowR, iv_setIn, iv_rowIn, rv_setRn, rv_rowRn, iv_rowIe, rv_rowRe, and_self, if_true]
    · simp only [ty_setI, ty_setR, ty_rowI, ty_rowR, jk_setI, jk_setR, jk_rowI, jk_rowR, jl_setI, jl_setR, jl_rowI, jl_rowR, sz_setI, sz_setR, sz_rowI, sz_rowR, ext_setI, ext_setR, iv_setI, iv_setR, iv_rowI, iv_rowR, rv_setI, rv_setR, rv_rowI, rv_rowR, iv_setIn, iv_rowIn, rv_setRn, rv_rowRn, iv_rowIe, rv_rowRe, show ¬ (5 : Nat) = 1 by decide, and_false, if_false]; exact hh
    · simp only [ty_setI, ty_setR, ty_rowI, ty_rowR, jk_setI, jk_setR, jk_rowI, jk_rowR, jl_setI, jl_setR, jl_rowI, jl_rowR, sz_setI, sz_setR, sz_rowI, sz_rowR, ext_setI, ext_setR, iv_setI, iv_setR, iv_rowI, iv_rowR, rv_setI, rv_setR, rv_rowI, rv_rowR, iv_setIn, iv_rowIn, rv_setRn, rv_rowRn, iv_rowIe, rv_rowRe, show ¬ q + 3 = q by omega, false_and, if_false]
  | some p =>
    rw [e] at hrc
    have hrc : refC G i = some (p, i / 2 % 4) := hrc
    rw [hrc] at nd ⊢
    have hp := hlt p e
    obtain ⟨μ', h1, h2⟩ := ha d μ S h p (i / 2 % 4) hx hS hS2 hk hw hh hn hi hp hr.2.1 (fun s hs => nd_fst (nd s hs) (fun n h => h))
    refine ⟨μ', ?_, h2⟩
    rw [hd] at h1
    simp only [b64_13, b64_44, gI2, gR2, pI2, pR2, rv2, gI5, gR5, pI5, pR5, rv5, aI_eq, aB_eq, aR_eq, sI_eq, sB_eq, sR_eq, Option.bind_some, Option.bind_none, if_true, if_false, true_or, or_true, false_or, or_false, true_and, and_true, false_and, and_false, decide_eq_true_eq, decide_true, decide_false, eq_self, not_true_eq_false, not_false_eq_true, jfit0, N_lit, N_add, N_mul, NEG_eq, pl_none, pl_some, rf_some, rf_none, jun_ref, jun_null, ir_ref, ir_null, jr_rf, jun_rf, Option.toList_some, Option.toList_none, List.nil_append, List.cons_append, N_NEG (show p < 2147483648 by omega), hq.1.1, hf.1, hf.r z4.2.1, hf.k z4.2.1, hf.2.2.2.1, jinb_N bb, t1, N_nat bb, t4, h1]
theorem x_joined (hw : wd < 3) : jC (d + 1) 67 [.int (wT wd), .int (fo wd acc), .int v] μ = some (some (.int (jn wd acc v)), μ) := by
  have mx : imax (-(N 2147483648)) v = v := by
    unfold imax
    split
    · rfl
    · rename_i h
      have h2 := Int32.le_toInt v
      refine Int32.toInt_inj.mp ?_
      have h3 : ¬ (-(N 2147483648)).toInt < v.toInt := fun g => h (Int32.lt_iff_toInt_lt.mpr g)
      have h4 : (-(N 2147483648)).toInt = -2147483648 := by decide
      rw [h4] at h3 ⊢
      omega
  have mn : imin (N 2147483647) v = v := by
    unfold imin
    split
    · rfl
    · rename_i h
      have h2 := Int32.toInt_lt v
      refine Int32.toInt_inj.mp ?_
      have h3 : ¬ v.toInt < (N 2147483647).toInt := fun g => h (Int32.lt_iff_toInt_lt.mpr g)
      have h4 : (N 2147483647).toInt = 2147483647 := by decide
      rw [h4] at h3 ⊢
      omega
  rw [jC_run (by decide)]
  show jR (d + 1) 67 0 [.int (wT wd), .int (fo wd acc), .int v] [] μ = _
  obtain rfl | rfl | rfl : wd = 0 ∨ wd = 1 ∨ wd = 2 := by omega
  · rw [show wT 0 = N 116 from rfl]
    simp only [b67_0, b67_31, aI_eq, aB_eq, aR_eq, sI_eq, sB_eq, sR_eq, Option.bind_some, Option.bind_none, if_true, if_false, true_or, or_true, false_or, or_false, true_and, and_true, false_and, and_false, decide_eq_true_eq, decide_true, decide_false, eq_self, not_true_eq_false, not_false_eq_true, jfit0, N_lit, N_add, N_mul, NEG_eq, pl_none, pl_some, rf_some, rf_none, jun_ref, jun_null, ir_ref, ir_null, jr_rf, jun_rf, Option.toList_some, Option.toList_none, List.nil_append, List.cons_append, show (N 116 = N 109) = False from N_ne (by decide) (by decide) (by decide), show (N 116 = N 108) = False from N_ne (by decide) (by decide) (by decide)]
    cases acc with
    | none => rw [show jn 0 none v = v from rfl, show fo 0 none = 0 from rfl, Int32.zero_add]
    | some x => rfl
  · rw [show wT 1 = N 109 from rfl]
    simp only [b67_0, b67_11, b67_31, aI_eq, aB_eq, aR_eq, sI_eq, sB_eq, sR_eq, Option.bind_some, Option.bind_none, if_true, if_false, true_or, or_true, false_or, or_false, true_and, and_true, false_and, and_false, decide_eq_true_eq, decide_true, decide_false, eq_self, not_true_eq_false, not_false_eq_true, jfit0, N_lit, N_add, N_mul, NEG_eq, pl_none, pl_some, rf_some, rf_none, jun_ref, jun_null, ir_ref, ir_null, jr_rf, jun_rf, Option.toList_some, Option.toList_none, List.nil_append, List.cons_append, math_max]
    cases acc with
    | none => rw [show jn 1 none v = v from rfl, show fo 1 none = -(N 2147483648) from rfl, mx]
    | some x => rfl
  · rw [show wT 2 = N 108 from rfl]
    simp only [b67_0, b67_25, b67_31, aI_eq, aB_eq, aR_eq, sI_eq, sB_eq, sR_eq, Option.bind_some, Option.bind_none, if_true, if_false, true_or, or_true, false_or, or_false, true_and, and_true, false_and, and_false, decide_eq_true_eq, decide_true, decide_false, eq_self, not_true_eq_false, not_false_eq_true, jfit0, N_lit, N_add, N_mul, NEG_eq, pl_none, pl_some, rf_some, rf_none, jun_ref, jun_null, ir_ref, ir_null, jr_rf, jun_rf, Option.toList_some, Option.toList_none, List.nil_append, List.cons_append, show (N 108 = N 109) = False from N_ne (by decide) (by decide) (by decide), math_min]
    cases acc with
    | none => rw [show jn 2 none v = v from rfl, show fo 2 none = N 2147483647 from rfl, mn]
    | some x => rfl
/-- one row of a range -/
theorem rng_row {dp p rt : Nat} {u1 u2 u4 u5 : Value} {i6 i7 : Int32} {lf : Int32} (hwd : wd < 3) (ha : AskOK G q D g k) (hd : S.length = dp + 1) (hS : S.Nodup) (hS2 : ∀ s, s ∈ S → s < 24) (hk : S.length + k = 24) (hn : h ≤ 39 * S.length) (hp : p < G.length) (hG8 : G.length ≤ 8) (hrt : rt < 3) (rest : List (Nat × Nat)) : ∀ (n c : Nat) (acc : Option Int32) (μ : jM), c + n = rt + 1 → AX μ q D g G → jiv μ q 1 = N 0 → jiv μ q 5 = N h → AI G μ q S → (∀ s, s ∈ S → Nd G (s / 3, s % 3) (fun m => rfd wd (evC G m) (((List.range' c n).map fun c => (p, c)) ++ rest) acc)) →
    ∃ μ' x c', jR (d + (4 * k + 5) + 1) 66 172 [.ref q, u1, u2, .int (N dp), u4, u5, .int i6, .int i7, .int lf, .int (N rt), .int (wT wd), .int (fo wd acc), .int (N p), .int (N c)] [] μ = jR (d + (4 * k + 5) + 1) 66 244 [.ref q, u1, u2, .int (N dp), u4, u5, .int i6, .int i7, .int lf, .int (N rt), .int (wT wd), .int x, .int (N p), .int c'] [] μ' ∧
      ((∃ acc', x = fo wd acc' ∧ (acc ≠ none ∨ 0 < n → acc' ≠ none) ∧ PA G q S h (N 0, N 0) μ μ' ∧ tfd G wd (((List.range' c n).map fun c => (p, c)) ++ rest) acc = tfd G wd rest acc' ∧ ∀ s, s ∈ S → Nd G (s / 3, s % 3) (fun m => rfd wd (evC G m) rest acc')) ∨
       (PA G q S h (tfd G wd (((List.range' c n).map fun c => (p, c)) ++ rest) acc) μ μ' ∧ (tfd G wd (((List.range' c n).map fun c => (p, c)) ++ rest) acc).1 ≠ N 0)) := by
  have w110 : (wT wd = N 110) = False := by
    obtain rfl | rfl | rfl : wd = 0 ∨ wd = 1 ∨ wd = 2 := by omega
    all_goals exact eq_false (by decide)
  intro n
  induction n with
  | zero =>
    intro c acc μ hc hx hw hh hi nd
    refine ⟨μ, fo wd acc, N c, ?_, Or.inl ⟨acc, rfl, fun g => g.elim id (fun g => absurd g (by decide)), PA.refl hw hh hi, rfl, nd⟩⟩
    rw [b66_172, if_pos]
    rw [N_lt (by omega) (by omega)]; omega
  | succ n ih =>
    intro c acc μ hc hx hw hh hi nd
    have hc3 : c < 3 := by omega
    rw [List.range'_succ] at nd ⊢
    simp only [List.map_cons, List.cons_append] at nd ⊢
    have q1 : (N rt < N c) = False := by rw [N_lt (by omega) (by omega)]; exact eq_false (by omega)
    obtain ⟨μ1, h1, h2⟩ := ha d μ S h p c hx hS hS2 hk hw hh hn hi hp hc3 (fun s hs => nd_fst (c := (p, c)) (nd s hs) (fun n => sq_ne))
    rw [hd] at h1
    have hx1 := hx.fr h2.1
    have step : jR (d + (4 * k + 5) + 1) 66 172 [.ref q, u1, u2, .int (N dp), u4, u5, .int i6, .int i7, .int lf, .int (N rt), .int (wT wd), .int (fo wd acc), .int (N p), .int (N c)] [] μ = jR (d + (4 * k + 5) + 1) 66 172 [.ref q, u1, u2, .int (N dp), u4, u5, .int i6, .int i7, .int lf, .int (N rt), .int (wT wd), .int (jn wd acc (vlC G p c).2), .int (N p), .int (N (c + 1))] [] μ1 := by
      have hj : jC (d + (4 * k + 5)) 67 [.int (wT wd), .int (fo wd acc), .int (vlC G p c).2] μ1 = some (some (.int (jn wd acc (vlC G p c).2)), μ1) := x_joined (d := d + (4 * k + 4)) hwd
      rw [b66_172]
      simp only [q1, gI2, gR2, pI2, pR2, rv2, gI6, gR6, pI6, pR6, rv6, aI_eq, aB_eq, aR_eq, sI_eq, sB_eq, sR_eq, Option.bind_some, Option.bind_none, if_true, if_false, true_or, or_true, false_or, or_false, true_and, and_true, false_and, and_false, decide_eq_true_eq, decide_true, decide_false, eq_self, not_true_eq_false, not_false_eq_true, jfit0, N_lit, N_add, N_mul, NEG_eq, pl_none, pl_some, rf_some, rf_none, jun_ref, jun_null, ir_ref, ir_null, jr_rf, jun_rf, Option.toList_some, Option.toList_none, List.nil_append, List.cons_append, hx.1.1.1, hw, w110, h1, hj, b66_233, b66_236]
    by_cases e : (vlC G p c).1 = N 0
    · have ev : vlC G p c = (N 0, (vlC G p c).2) := Prod.ext e rfl
      have et : tfd G wd ((p, c) :: (((List.range' (c + 1) n).map fun c => (p, c)) ++ rest)) acc = tfd G wd (((List.range' (c + 1) n).map fun c => (p, c)) ++ rest) (some (jn wd acc (vlC G p c).2)) := by
        rw [tfd, ev, sqt_0]
      rw [et]
      obtain ⟨μ', x', c', g1, g2⟩ := ih (c + 1) (some (jn wd acc (vlC G p c).2)) μ1 (by omega) hx1 (h2.2.1.trans e) h2.2.2.1 (h2.2.2.2.2 e) (fun s hs => nd_r (f := fun m v => rfd wd (evC G m) (((List.range' (c + 1) n).map fun c => (p, c)) ++ rest) (some (jn wd acc v))) (nd s hs) vlC_lim e)
      refine ⟨μ', x', c', step.trans g1, ?_⟩
      rcases g2 with ⟨acc', a1, a2, a3, a4, a5⟩ | ⟨a1, a2⟩
      · exact Or.inl ⟨acc', a1, fun _ => a2 (Or.inl (by simp)), h2.trans a3, a4, a5⟩
      · exact Or.inr ⟨h2.trans a1, a2⟩
    · have et : tfd G wd ((p, c) :: (((List.range' (c + 1) n).map fun c => (p, c)) ++ rest)) acc = ((vlC G p c).1, N 0) := by rw [tfd, sqt_w e]
      rw [et]
      refine ⟨μ1, jn wd acc (vlC G p c).2, N (c + 1), ?_, Or.inr ⟨⟨h2.1, h2.2.1, h2.2.2.1, h2.2.2.2.1, h2.2.2.2.2⟩, e⟩⟩
      rw [step, b66_172]
      split
      · rfl
      · simp only [gI2, gR2, pI2, pR2, rv2, aI_eq, aB_eq, aR_eq, sI_eq, sB_eq, sR_eq, Option.bind_some, Option.bind_none, if_true, if_false, true_or, or_true, false_or, or_false, true_and, and_true, false_and, and_false, decide_eq_true_eq, decide_true, decide_false, eq_self, not_true_eq_false, not_false_eq_true, jfit0, N_lit, N_add, N_mul, NEG_eq, pl_none, pl_some, rf_some, rf_none, jun_ref, jun_null, ir_ref, ir_null, jr_rf, jun_rf, Option.toList_some, Option.toList_none, List.nil_append, List.cons_append, hx1.1.1.1, h2.2.1, e]
/-- where something is wrong, a range ends -/
theorem rng_drain {u1 u2 u4 u5 : Value} {i3 i6 i7 i8 i9 i10 i11 : Int32} {p1 p2 : Nat} (h1 : p1 < 1000) (h2 : p2 < 1000) (h6 : i6 = N p1) (h7 : i7 = N p2) (hx : AQ μ q) (hw : ¬ jiv μ q 1 = N 0) : ∀ (m p : Nat) (u13 : Value), p + m = max p1 p2 + 1 → jR (d + 1) 66 156 [.ref q, u1, u2, .int i3, u4, u5, .int i6, .int i7, .int i8, .int i9, .int i10, .int i11, .int (N p), u13] [] μ = some (some (.int i11), μ) := by
  have em : imax i6 i7 = N (max p1 p2) := by
    rw [h6, h7]
    unfold imax
    simp only [N_lt (show p1 < 2147483648 by omega) (show p2 < 2147483648 by omega)]
    split
    · rw [Nat.max_eq_right (by omega)]
    · rw [Nat.max_eq_left (by omega)]
  intro m
  induction m with
  | zero =>
    intro p u13 hp
    simp only [b66_156, math_max, em, Option.bind_some, Option.toList_some, List.cons_append, List.nil_append, b66_165, N_lt (show max p1 p2 < 2147483648 by omega) (show p < 2147483648 by omega), show max p1 p2 < p by omega, if_true]
  | succ m ih =>
    intro p u13 hp
    have e1 : (max p1 p2 < p) = False := eq_false (by omega)
    have e2 : (if i9 < i8 then jR (d + 1) 66 244 [.ref q, u1, u2, .int i3, u4, u5, .int i6, .int i7, .int i8, .int i9, .int i10, .int i11, .int (N p), .int i8] [] μ else jR (d + 1) 66 244 [.ref q, u1, u2, .int i3, u4, u5, .int i6, .int i7, .int i8, .int i9, .int i10, .int i11, .int (N p), .int i8] [] μ) = some (some (.int i11), μ) := by
      rw [ite_self, b66_244, N_lit, N_add]
      exact ih (p + 1) _ (by omega)
    simp only [b66_156, math_max, em, Option.bind_some, Option.toList_some, List.cons_append, List.nil_append, b66_165, N_lt (show max p1 p2 < 2147483648 by omega) (show p < 2147483648 by omega), e1, if_false, b66_172, gI2, hx.1.1, if_true, N_lit, hw]
    exact e2
end RNG
