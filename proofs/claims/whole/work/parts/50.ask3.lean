/-! ASKING: a tree, a cell -/
theorem refC_can {G : List (RW (List Tk))} {i : Nat} : refC G (rcan i) = refC G i := by
  unfold rcan
  split
  · rename_i e; unfold refC; rw [if_pos (by decide), if_pos e]
  · rfl
theorem rcode {w a b : Nat} (ha : a < 1000) (hb : b < 1000) : (w * 1000000 + a * 1000 + b) / 1000000 = w ∧ (w * 1000000 + a * 1000 + b) / 1000 % 1000 = a ∧ (w * 1000000 + a * 1000 + b) % 1000 = b := by omega
theorem evN_neg {G : List (RW (List Tk))} {n : Nat} {a : Ex} : evN G n (.neg a) = sq (evN G n a) fun x => some (N 0, -x) := rfl
theorem evN_add {G : List (RW (List Tk))} {n : Nat} {a b : Ex} : evN G n (.add a b) = sq (evN G n a) fun x => sq (evN G n b) fun y => some (N 0, x + y) := rfl
theorem evN_sub {G : List (RW (List Tk))} {n : Nat} {a b : Ex} : evN G n (.sub a b) = sq (evN G n a) fun x => sq (evN G n b) fun y => some (N 0, x - y) := rfl
theorem evN_mul {G : List (RW (List Tk))} {n : Nat} {a b : Ex} : evN G n (.mul a b) = sq (evN G n a) fun x => sq (evN G n b) fun y => some (N 0, x * y) := rfl
theorem evN_can {G : List (RW (List Tk))} {n : Nat} : ∀ (e : Ex), evN G n (ecan e) = evN G n e := by
  intro e
  induction e with
  | natCast v => rfl
  | var i =>
    show evL G (evC G n) (rcan i) = evL G (evC G n) i
    unfold evL; rw [refC_can]
  | num k =>
    obtain ⟨h1, h2, h3⟩ := rcode (w := k.toNat / 1000000) (rcan_lt (i := k.toNat / 1000 % 1000) (by omega)) (rcan_lt (i := k.toNat % 1000) (by omega))
    show evR G (evC G n) (Int.toNat _) = evR G (evC G n) k.toNat
    unfold evR
    rw [Int.toNat_natCast, h1, h2, h3, refC_can, refC_can]
  | neg a ih => rw [show ecan (Lean.Grind.CommRing.Expr.neg a) = .neg (ecan a) from rfl, evN_neg, evN_neg, ih]
  | pow a k ih => exact ih
  | add a b iha ihb => rw [show ecan (Lean.Grind.CommRing.Expr.add a b) = .add (ecan a) (ecan b) from rfl, evN_add, evN_add, iha, ihb]
  | sub a b iha ihb => rw [show ecan (Lean.Grind.CommRing.Expr.sub a b) = .sub (ecan a) (ecan b) from rfl, evN_sub, evN_sub, iha, ihb]
  | mul a b iha ihb => rw [show ecan (Lean.Grind.CommRing.Expr.mul a b) = .mul (ecan a) (ecan b) from rfl, evN_mul, evN_mul, iha, ihb]
  | intCast k => rfl
theorem tvE_can {G : List (RW (List Tk))} (e : Ex) : tvE G (ecan e) = tvE G e := by
  have h := lim_E (G := G) (ecan e)
  simp only [evN_can] at h
  exact h.uniq (lim_E e)
theorem Dp.nd {G : List (RW (List Tk))} {s t : Nat × Nat} {e : Ex} (h : Dp G s t) (h' : Nd G t (fun n => evN G n e)) : Nd G s (fun n => evN G n e) := by
  intro n hs
  cases n with
  | zero => exact absurd rfl (h 0 hs)
  | succ n =>
    have h2 := h' n (h _ hs)
    cases e1 : evN G n e with
    | none => exact absurd e1 h2
    | some r => show evN G (n + 1) e ≠ none; rw [evN_up e1]; exact fun g => by cases g
theorem nodup_le : ∀ (n : Nat) (S : List Nat), S.Nodup → (∀ s, s ∈ S → s < n) → S.length ≤ n
  | 0, [], _, _ => Nat.le_refl _
  | 0, s :: S, _, h => absurd (h s List.mem_cons_self) (Nat.not_lt_zero s)
  | n + 1, S, hn, h => by
    by_cases e : n ∈ S
    · have h1 := List.length_erase_of_mem e
      have h2 := nodup_le n (S.erase n) (hn.erase n) (fun s hs => by
        have h3 := (List.Nodup.mem_erase_iff hn).mp hs
        have h4 := h s h3.2
        have h5 : s ≠ n := h3.1
        omega)
      omega
    · have h2 := nodup_le n S hn (fun s hs => by
        have h4 := h s hs
        have h5 : s ≠ n := fun g => e (g ▸ hs)
        omega)
      omega
/-- a tree is worked out: on to the place behind it, or to the end if something is wrong -/
def RunT (G : List (RW (List Tk))) (q D g k d f dp : Nat) (bt : Int32) (S : List Nat) (e0 e : Ex) : Prop := ∀ (u b i : Nat) (A B : List Tk) (A' B' : List Nat) (μ : jM) (h : Nat) (z : Value), lv u e → AC1 μ q D g G f e0 → tks e0 = A ++ (tks e ++ B) → A.length = b → ords 0 e0 = A' ++ (ords b e ++ B') → A'.length = i → jiv μ q 1 = N 0 → jiv μ q 5 = N h → h + (tks e).length ≤ 39 * S.length → AI G μ q S → (∀ s, s ∈ S → Nd G (s / 3, s % 3) (fun n => evN G n e)) →
  ∃ μ' z', SP G q S h (tvE G e) μ μ' ∧ (((tvE G e).1 = N 0 ∧ jR (d + (4 * k + 5) + 3) 61 8 [.ref q, .ref f, .int (N dp), .int bt, .int (N i), z] [] μ = jR (d + (4 * k + 5) + 3) 61 8 [.ref q, .ref f, .int (N dp), .int bt, .int (N (i + (ords b e).length)), z'] [] μ') ∨ ∃ i', (tvE G e).1 ≠ N 0 ∧ jR (d + (4 * k + 5) + 3) 61 8 [.ref q, .ref f, .int (N dp), .int bt, .int (N i), z] [] μ = jR (d + (4 * k + 5) + 3) 61 63 [.ref q, .ref f, .int (N dp), .int bt, .int i', z'] [] μ')
section TREE
variable {μ μ' μ'' : jM} {q D g h d f b n k wd i j dp : Nat} {G : List (RW (List Tk))} {S : List Nat} {v x y bt : Int32} {e0 : Ex} {r : VT}
theorem sp_push (hp : PA G q S h r μ μ') (hv : r.1 = N 0 → v = r.2) : SP G q S h r μ (jsetI (jsetI μ' (q + 3) h v) q 5 (N (h + 1))) := by
  obtain ⟨h1, h2, h3, h4, h5⟩ := hp
  refine ⟨AF.setI (AF.setI h1 (by omega)) (by omega), ?_, fun j hj => ?_, fun g => ⟨?_, ?_, (h5 g).fr ?_ ?_⟩⟩
  · simp only [ty_setI, ty_setR, ty_rowI, ty_rowR, jk_setI, jk_setR, jk_rowI, jk_rowR, jl_setI, jl_setR, jl_rowI, jl_rowR, sz_setI, sz_setR, sz_rowI, sz_rowR, ext_setI, ext_setR, iv_setI, iv_setR, iv_rowI, iv_rowR, rv_setI, rv_setR, rv_rowI, rv_rowR, iv_setIn, iv_rowIn, rv_setRn, rv_rowRn, iv_rowIe, rv_rowRe, show ¬ q = q + 3 by omega, false_and, and_false, if_false, show ¬ (1 : Nat) = 5 by decide]; exact h2
  · simp only [ty_setI, ty_setR, ty_rowI, ty_rowR, jk_setI, jk_setR, jk_rowI, jk_rowR, jl_setI, jl_setR, jl_rowI, jl_rowR, sz_setI, sz_setR, sz_rowI, sz_rowR, ext_setI, ext_setR, iv_setI, iv_setR, iv_rowI, iv_rowR, rv_setI, rv_setR, rv_rowI, rv_rowR, iv_setIn, iv_rowIn, rv_setRn, rv_rowRn, iv_rowIe, rv_rowRe, show ¬ q + 3 = q by omega, false_and, if_false, show ¬ j = h by omega, and_false]; exact h4 j hj
  · simp only [ty_setI, ty_setR, ty_rowI, ty_rowR, jk_setI, jk_setR, jk_rowI, jk_rowR, jl_setI, jl_setR, jl_rowI, jl_rowR, sz_setI, sz_setR, sz_rowI, sz_rowR, ext_setI, ext_setR, iv_setI, iv_setR, iv_rowI, iv_rowR, rv_setI, rv_setR, rv_rowI, rv_rowR, iv_setIn, iv_rowIn, rv_setRn, rv_rowRn, iv_rowIe, rv_rowRe, and_self, if_true]
  · simp only [ty_setI, ty_setR, ty_rowI, ty_rowR, jk_setI, jk_setR, jk_rowI, jk_rowR, jl_setI, jl_setR, jl_rowI, jl_rowR, sz_setI, sz_setR, sz_rowI, sz_rowR, ext_setI, ext_setR, iv_setI, iv_setR, iv_rowI, iv_rowR, rv_setI, rv_setR, rv_rowI, rv_rowR, iv_setIn, iv_rowIn, rv_setRn, rv_rowRn, iv_rowIe, rv_rowRe, show ¬ q + 3 = q by omega, false_and, if_false, and_self, if_true]; exact hv g
  · simp only [ty_setI, ty_setR, ty_rowI, ty_rowR, jk_setI, jk_setR, jk_rowI, jk_rowR, jl_setI, jl_setR, jl_rowI, jl_rowR, sz_setI, sz_setR, sz_rowI, sz_rowR, ext_setI, ext_setR, iv_setI, iv_setR, iv_rowI, iv_rowR, rv_setI, rv_setR, rv_rowI, rv_rowR, iv_setIn, iv_rowIn, rv_setRn, rv_rowRn, iv_rowIe, rv_rowRe, show ¬ q + 1 = q by omega, show ¬ q + 1 = q + 3 by omega, not_false_eq_true]
  · simp only [ty_setI, ty_setR, ty_rowI, ty_rowR, jk_setI, jk_setR, jk_rowI, jk_rowR, jl_setI, jl_setR, jl_rowI, jl_rowR, sz_setI, sz_setR, sz_rowI, sz_rowR, ext_setI, ext_setR, iv_setI, iv_setR, iv_rowI, iv_rowR, rv_setI, rv_setR, rv_rowI, rv_rowR, iv_setIn, iv_rowIn, rv_setRn, rv_rowRn, iv_rowIe, rv_rowRe, show ¬ q + 2 = q by omega, show ¬ q + 2 = q + 3 by omega, not_false_eq_true]
theorem st_ref {A B : List Tk} (ha : AskOK G q D g k) (hz : KZ G) (hc : AC1 μ q D g G f e0) (ht : tks e0 = A ++ rT i :: B) (hA : A.length = b) (hr : rK i) (hd : S.length = dp + 1) (hS : S.Nodup) (hS2 : ∀ s, s ∈ S → s < 24) (hk : S.length + k = 24) (hw : jiv μ q 1 = N 0) (hh : jiv μ q 5 = N h) (hn : h < 39 * S.length) (hi : AI G μ q S) (nd : ∀ s, s ∈ S → Nd G (s / 3, s % 3) (fun n => evL G (evC G n) i)) : ∃ μ', jC (d + (4 * k + 5) + 2) 62 [.ref q, .ref f, .int (N b), .int (N dp)] μ = some (none, μ') ∧ SP G q S h (tL G i) μ μ' := by
  obtain ⟨μ1, h1, h2⟩ := x_askRef (d := d) ha hz hc ht hA hr hd hS hS2 hk hw hh (by omega) hi nd
  obtain ⟨hx, hf, hT, hO⟩ := hc
  obtain ⟨t1, t2, t3, t4, t5⟩ := tk_at hf (hT.trans ht) hA
  have bb : b < 2147483648 := by omega
  have hq := hx.1
  have hq1 := hq.fr h2.1
  refine ⟨_, ?_, sp_push h2 (fun _ => rfl)⟩
  have hp := x_push (d := d + (4 * k + 5) + 1) (v := (tL G i).2) hq1 h2.2.2.1 (by omega)
  rw [jC_run (by decide)]
  show jR (d + (4 * k + 5) + 2) 62 0 [.ref q, .ref f, .int (N b), .int (N dp)] [] μ = _
  rcases rT_fst (i := i) with e | e
  · rw [e] at t3
    simp only [b62_0, b62_93, b62_96, b62_171, gI2, gR2, pI2, pR2, rv2, gI5, gR5, pI5, pR5, rv5, aI_eq, aB_eq, aR_eq, sI_eq, sB_eq, sR_eq, Option.bind_some, Option.bind_none, if_true, if_false, true_or, or_true, false_or, or_false, true_and, and_true, false_and, and_false, decide_eq_true_eq, decide_true, decide_false, eq_self, not_true_eq_false, not_false_eq_true, jfit0, N_lit, N_add, N_mul, NEG_eq, pl_none, pl_some, rf_some, rf_none, jun_ref, jun_null, ir_ref, ir_null, jr_rf, jun_rf, Option.toList_some, Option.toList_none, List.nil_append, List.cons_append, show (N 114 = N 42) = False from N_ne (by decide) (by decide) (by decide), show (N 114 = N 43) = False from N_ne (by decide) (by decide) (by decide), show (N 114 = N 45) = False from N_ne (by decide) (by decide) (by decide), show (N 114 = N 48) = False from N_ne (by decide) (by decide) (by decide), show (N 114 = N 103) = False from N_ne (by decide) (by decide) (by decide), hq.1.1, hq1.1.1, hf.1, hf.r z4.1, hf.k z4.1, jinb_N bb, t1, N_nat bb, t3, h1, hp]
  · rw [e] at t3
    simp only [b62_0, b62_93, b62_96, b62_171, gI2, gR2, pI2, pR2, rv2, gI5, gR5, pI5, pR5, rv5, aI_eq, aB_eq, aR_eq, sI_eq, sB_eq, sR_eq, Option.bind_some, Option.bind_none, if_true, if_false, true_or, or_true, false_or, or_false, true_and, and_true, false_and, and_false, decide_eq_true_eq, decide_true, decide_false, eq_self, not_true_eq_false, not_false_eq_true, jfit0, N_lit, N_add, N_mul, NEG_eq, pl_none, pl_some, rf_some, rf_none, jun_ref, jun_null, ir_ref, ir_null, jr_rf, jun_rf, Option.toList_some, Option.toList_none, List.nil_append, List.cons_append, show (N 115 = N 42) = False from N_ne (by decide) (by decide) (by decide), show (N 115 = N 43) = False from N_ne (by decide) (by decide) (by decide), show (N 115 = N 45) = False from N_ne (by decide) (by decide) (by decide), show (N 115 = N 48) = False from N_ne (by decide) (by decide) (by decide), show (N 115 = N 103) = False from N_ne (by decide) (by decide) (by decide), show (N 115 = N 114) = False from N_ne (by decide) (by decide) (by decide), hq.1.1, hq1.1.1, hf.1, hf.r z4.1, hf.k z4.1, jinb_N bb, t1, N_nat bb, t3, h1, hp]
theorem st_rng {kk : Nat} {A B : List Tk} (ha : AskOK G q D g k) (hz : KZ G) (hc : AC1 μ q D g G f e0) (ht : tks e0 = A ++ (wT (kk / 1000000), N 0, N 0) :: (N 40, N 0, N 0) :: rT (kk / 1000 % 1000) :: (N 58, N 0, N 0) :: rT (kk % 1000) :: (N 41, N 0, N 0) :: B) (hA : A.length = b) (hwd : kk / 1000000 < 4) (hr1 : rK (kk / 1000 % 1000)) (hr2 : rK (kk % 1000)) (hd : S.length = dp + 1) (hS : S.Nodup) (hS2 : ∀ s, s ∈ S → s < 24) (hk : S.length + k = 24) (hw : jiv μ q 1 = N 0) (hh : jiv μ q 5 = N h) (hn : h < 39 * S.length) (hi : AI G μ q S) (nd : ∀ s, s ∈ S → Nd G (s / 3, s % 3) (fun n => evR G (evC G n) kk)) : ∃ μ', jC (d + (4 * k + 5) + 2) 62 [.ref q, .ref f, .int (N b), .int (N dp)] μ = some (none, μ') ∧ SP G q S h (tR G kk) μ μ' := by
  obtain ⟨μ1, v, h1, h2, h3⟩ := x_askRange (d := d) ha hz hc ht hA hwd hr1 hr2 hd hS hS2 hk hw hh (by omega) hi nd
  obtain ⟨hx, hf, hT, hO⟩ := hc
  obtain ⟨t1, t2, t3, t4, t5⟩ := tk_at hf (hT.trans ht) hA
  have t3 : jiv μ (fa μ f 0) b = wT (kk / 1000000) := t3
  have bb : b < 2147483648 := by omega
  have hq := hx.1
  have hq1 := hq.fr h2.1
  refine ⟨_, ?_, sp_push h2 h3⟩
  have hp := x_push (d := d + (4 * k + 5) + 1) (v := v) hq1 h2.2.2.1 (by omega)
  rw [jC_run (by decide)]
  show jR (d + (4 * k + 5) + 2) 62 0 [.ref q, .ref f, .int (N b), .int (N dp)] [] μ = _
  have w6 : (wT (kk / 1000000) = N 42) = False ∧ (wT (kk / 1000000) = N 43) = False ∧ (wT (kk / 1000000) = N 45) = False := by
    generalize kk / 1000000 = wd at *
    obtain rfl | rfl | rfl | rfl : wd = 0 ∨ wd = 1 ∨ wd = 2 ∨ wd = 3 := by omega
    all_goals exact ⟨eq_false (by decide), eq_false (by decide), eq_false (by decide)⟩
  obtain ⟨w1, w2, w3, w4, w5⟩ := wT_ne (w := kk / 1000000)
  simp only [b62_0, b62_168, b62_171, gI2, gR2, pI2, pR2, rv2, gI5, gR5, pI5, pR5, rv5, aI_eq, aB_eq, aR_eq, sI_eq, sB_eq, sR_eq, Option.bind_some, Option.bind_none, if_true, if_false, true_or, or_true, false_or, or_false, true_and, and_true, false_and, and_false, decide_eq_true_eq, decide_true, decide_false, eq_self, not_true_eq_false, not_false_eq_true, jfit0, N_lit, N_add, N_mul, NEG_eq, pl_none, pl_some, rf_some, rf_none, jun_ref, jun_null, ir_ref, ir_null, jr_rf, jun_rf, Option.toList_some, Option.toList_none, List.nil_append, List.cons_append, w1, w2, w3, w4, w5, w6.1, w6.2.1, w6.2.2, hq.1.1, hq1.1.1, hf.1, hf.r z4.1, hf.k z4.1, jinb_N bb, t1, N_nat bb, t3, h1, hp]
/-- one step of the loop -/
theorem op_it {A' B' : List Nat} {z : Value} (hb : b < (tks e0).length) (hc : AC1 μ q D g G f e0) (ho : ords 0 e0 = A' ++ b :: B') (hA : A'.length = i) (hw : jiv μ q 1 = N 0) (hst : ∃ μ', jC (d + (4 * k + 5) + 2) 62 [.ref q, .ref f, .int (N b), .int (N dp)] μ = some (none, μ') ∧ SP G q S h r μ μ') : ∃ μ' z', SP G q S h r μ μ' ∧ ((r.1 = N 0 ∧ jR (d + (4 * k + 5) + 3) 61 8 [.ref q, .ref f, .int (N dp), .int bt, .int (N i), z] [] μ = jR (d + (4 * k + 5) + 3) 61 8 [.ref q, .ref f, .int (N dp), .int bt, .int (N (i + 1)), z'] [] μ') ∨ ∃ i', r.1 ≠ N 0 ∧ jR (d + (4 * k + 5) + 3) 61 8 [.ref q, .ref f, .int (N dp), .int bt, .int (N i), z] [] μ = jR (d + (4 * k + 5) + 3) 61 63 [.ref q, .ref f, .int (N dp), .int bt, .int i', z'] [] μ') := by
  obtain ⟨μ', h1, h2⟩ := hst
  have hc1 := hc.fr h2.1
  obtain ⟨hx, hf, hT, hO⟩ := hc
  have hl : i < jl μ (fa μ f 3) ∧ jiv μ (fa μ f 3) i = N b := by
    have h3 : (ford μ f)[i]? = some (N b) := by rw [hO, ho, List.map_append, List.map_cons, List.getElem?_append_right (by rw [List.length_map]; omega), List.length_map, show i - A'.length = 0 by omega]; rfl
    unfold ford at h3
    rw [List.getElem?_map] at h3
    by_cases e : i < jl μ (fa μ f 3)
    · rw [List.getElem?_range e] at h3
      exact ⟨e, Option.some.inj h3⟩
    · rw [List.getElem?_eq_none (by rw [List.length_range]; omega)] at h3; cases h3
  have h40 := hf.2.2.2.2.2.2
  have h41 := hf.2.2.2.2.2.1
  have hb1 : b < jl μ (fa μ f 0) := by rw [← len_fT, hT]; exact hb
  have bb : b < 2147483648 := by omega
  have bi : i < 2147483648 := by omega
  have step : jR (d + (4 * k + 5) + 3) 61 8 [.ref q, .ref f, .int (N dp), .int bt, .int (N i), z] [] μ = jR (d + (4 * k + 5) + 3) 61 8 [.ref q, .ref f, .int (N dp), .int bt, .int (N (i + 1)), .int (N b)] [] μ' := by
    rw [b61_8 (h1 := ir_ref)]
    simp only [gI2, gR2, pI2, pR2, rv2, gI5, gR5, pI5, pR5, rv5, aI_eq, aB_eq, aR_eq, sI_eq, sB_eq, sR_eq, Option.bind_some, Option.bind_none, if_true, if_false, true_or, or_true, false_or, or_false, true_and, and_true, false_and, and_false, decide_eq_true_eq, decide_true, decide_false, eq_self, not_true_eq_false, not_false_eq_true, jfit0, N_lit, N_add, N_mul, NEG_eq, pl_none, pl_some, rf_some, rf_none, jun_ref, jun_null, ir_ref, ir_null, jr_rf, jun_rf, Option.toList_some, Option.toList_none, List.nil_append, List.cons_append, hf.1, hf.r z4.2.2.2, hf.k z4.2.2.2, alen_of (hf.k z4.2.2.2) (by decide), N_lt bi (show jl μ (fa μ f 3) < 2147483648 by omega), hl.1, hl.2, hx.1.1.1, hw, jinb_N bi, N_nat bi, hf.r z4.1, hf.k z4.1, alen_of (hf.k z4.1) (by decide), N_lt bb (show 0 < 2147483648 by decide), show ¬ b < 0 by omega, N_lt bb (show jl μ (fa μ f 0) < 2147483648 by omega), hb1, h1, b61_57]
  refine ⟨μ', .int (N b), h2, ?_⟩
  by_cases e : r.1 = N 0
  · exact Or.inl ⟨e, step⟩
  · refine Or.inr ⟨N (i + 1), e, ?_⟩
    have hf1 := hc1.2.1
    rw [step, b61_8 (h1 := ir_ref)]
    simp only [gI2, gR2, pI2, pR2, rv2, gI5, gR5, pI5, pR5, rv5, aI_eq, aB_eq, aR_eq, sI_eq, sB_eq, sR_eq, Option.bind_some, Option.bind_none, if_true, if_false, true_or, or_true, false_or, or_false, true_and, and_true, false_and, and_false, decide_eq_true_eq, decide_true, decide_false, eq_self, not_true_eq_false, not_false_eq_true, jfit0, N_lit, N_add, N_mul, NEG_eq, pl_none, pl_some, rf_some, rf_none, jun_ref, jun_null, ir_ref, ir_null, jr_rf, jun_rf, Option.toList_some, Option.toList_none, List.nil_append, List.cons_append, hf1.1, hf1.r z4.2.2.2, alen_of (hf1.k z4.2.2.2) (by decide), hc1.1.1.1.1, h2.2.1, e, ite_self]
theorem run_bin {e x y : Ex} {s : Int32} {op : Int32 → Int32 → VR} (hs : s = N 43 ∨ s = N 45 ∨ s = N 42) (hx : RunT G q D g k d f dp bt S e0 x) (hy : RunT G q D g k d f dp bt S e0 y) (h24 : S.length ≤ 24) (hlv : ∀ u, lv u e → (∃ u, lv u x) ∧ ∃ u, lv u y) (ht : tks e = tks x ++ (s, N 0, N 0) :: tks y) (ho : ∀ b, ords b e = ords b x ++ (ords (b + (tks x).length + 1) y ++ [b + (tks x).length])) (hv : tvE G e = sqt (tvE G x) fun v => sqt (tvE G y) fun w => (N 0, binv s v w)) (hev : ∀ n, evN G n e = sq (evN G n x) fun v => sq (evN G n y) (op v)) : RunT G q D g k d f dp bt S e0 e := by
  intro u b i A B A' B' μ h z hl hc h1 h2 h3 h4 hw hh hn hi nd
  obtain ⟨⟨ux, lx⟩, ⟨uy, ly⟩⟩ := hlv u hl
  rw [ht] at h1 hn
  rw [ho] at h3
  rw [List.length_append, List.length_cons] at hn
  have nd1 : ∀ s, s ∈ S → Nd G (s / 3, s % 3) (fun n => sq (evN G n x) fun v => sq (evN G n y) (op v)) := fun s hs => by
    have := nd s hs
    simp only [hev] at this
    exact this
  obtain ⟨μ1, z1, p1, p2⟩ := hx ux b i A ((s, N 0, N 0) :: tks y ++ B) A' (ords (b + (tks x).length + 1) y ++ [b + (tks x).length] ++ B') μ h z lx hc (by rw [h1]; simp) h2 (by rw [h3]; simp) h4 hw hh (by omega) hi (fun s hs => nd_l (nd1 s hs))
  have hc1 := hc.fr p1.1
  rw [hv]
  rcases p2 with ⟨e1, r1⟩ | ⟨i', e1, r1⟩
  · obtain ⟨m1, m2, m3⟩ := p1.2.2.2 e1
    obtain ⟨μ2, z2, p3, p4⟩ := hy uy (b + (tks x).length + 1) (i + (ords b x).length) (A ++ (tks x ++ [(s, N 0, N 0)])) B (A' ++ ords b x) ([b + (tks x).length] ++ B') μ1 (h + 1) z1 ly hc1 (by rw [h1]; simp) (by simp only [List.length_append, List.length_cons, List.length_nil]; omega) (by rw [h3]; simp) (by rw [List.length_append, h4]) (p1.2.1.trans e1) m1 (by omega) m3 (fun s hs => nd_l (nd_r (f := fun n v => sq (evN G n y) (op v)) (nd1 s hs) (lim_E x) e1))
    have hc2 := hc1.fr p3.1
    have et : sqt (tvE G x) (fun v => sqt (tvE G y) fun w => (N 0, binv s v w)) = sqt (tvE G y) fun w => (N 0, binv s (tvE G x).2 w) := by
      have ev : tvE G x = (N 0, (tvE G x).2) := Prod.ext e1 rfl
      rw [ev, sqt_0]
    rw [et]
    rcases p4 with ⟨e2, r2⟩ | ⟨i', e2, r2⟩
    · obtain ⟨m4, m5, m6⟩ := p3.2.2.2 e2
      have et2 : sqt (tvE G y) (fun w => (N 0, binv s (tvE G x).2 w)) = (N 0, binv s (tvE G x).2 (tvE G y).2) := by
        have ev : tvE G y = (N 0, (tvE G y).2) := Prod.ext e2 rfl
        rw [ev, sqt_0]
      rw [et2]
      have hst := st_bin (d := d + (4 * k + 5) + 1) (b := b + (tks x).length) (dp := N dp) (h := h) (A := A ++ tks x) (B := tks y ++ B) (S := S) hs hc2 (by rw [h1]; simp) (by rw [List.length_append, h2]) (p3.2.1.trans e2) m4 (by omega) m6
      rw [p3.2.2.1 h (by omega), m2, m5] at hst
      obtain ⟨μ3, z3, p5, p6⟩ := op_it (d := d) (k := k) (bt := bt) (i := i + (ords b x).length + (ords (b + (tks x).length + 1) y).length) (A' := A' ++ (ords b x ++ ords (b + (tks x).length + 1) y)) (B' := B') (z := z2) (by rw [h1]; simp only [List.length_append, List.length_cons]; omega) hc2 (by rw [h3]; simp) (by simp only [List.length_append]; omega) (p3.2.1.trans e2) hst
      refine ⟨μ3, z3, ⟨(p1.1.trans p3.1).trans p5.1, p5.2.1, fun j hj => (p5.2.2.1 j hj).trans ((p3.2.2.1 j (by omega)).trans (p1.2.2.1 j hj)), p5.2.2.2⟩, ?_⟩
      rcases p6 with ⟨e3, r3⟩ | ⟨i', e3, -⟩
      · refine Or.inl ⟨rfl, ?_⟩
        rw [r1, r2, r3, ho]
        simp only [List.length_append, List.length_cons, List.length_nil, Nat.add_assoc]
      · exact absurd rfl e3
    · have et2 : sqt (tvE G y) (fun w => (N 0, binv s (tvE G x).2 w)) = ((tvE G y).1, N 0) := sqt_w e2
      rw [et2]
      refine ⟨μ2, z2, ⟨p1.1.trans p3.1, p3.2.1, fun j hj => (p3.2.2.1 j (by omega)).trans (p1.2.2.1 j hj), fun g => absurd g e2⟩, Or.inr ⟨i', e2, ?_⟩⟩
      rw [r1, r2]
  · rw [sqt_w e1]
    exact ⟨μ1, z1, ⟨p1.1, p1.2.1, p1.2.2.1, fun g => absurd g e1⟩, Or.inr ⟨i', e1, r1⟩⟩
theorem run_tree (ha : AskOK G q D g k) (hz : KZ G) (hd : S.length = dp + 1) (hS : S.Nodup) (hS2 : ∀ s, s ∈ S → s < 24) (hk : S.length + k = 24) : ∀ (e : Ex), RunT G q D g k d f dp bt S e0 e := by
  have h24 : S.length ≤ 24 := by omega
  intro e
  induction e with
  | natCast v =>
    intro u b i A B A' B' μ h z hl hc h1 h2 h3 h4 hw hh hn hi nd
    have hn : h + 1 ≤ 39 * S.length := hn
    exact op_it (A' := A') (B' := B') (by rw [h1]; simp only [tks, List.length_append, List.length_cons]; omega) hc h3 h4 hw (st_num hc h1 h2 hw hh (by omega) hi)
  | var j =>
    intro u b i A B A' B' μ h z hl hc h1 h2 h3 h4 hw hh hn hi nd
    have hl : rK j := by cases u <;> exact hl
    have hn : h + 1 ≤ 39 * S.length := hn
    exact op_it (A' := A') (B' := B') (by rw [h1]; simp only [tks, List.length_append, List.length_cons]; omega) hc h3 h4 hw (st_ref ha hz hc h1 h2 hl hd hS hS2 hk hw hh (by omega) hi nd)
  | num kk =>
    intro u b i A B A' B' μ h z hl hc h1 h2 h3 h4 hw hh hn hi nd
    have hl : 0 ≤ kk ∧ kk.toNat / 1000000 < 4 ∧ rK (kk.toNat / 1000 % 1000) ∧ rK (kk.toNat % 1000) := by cases u <;> exact hl
    have hn : h + 6 ≤ 39 * S.length := hn
    exact op_it (A' := A') (B' := B') (by rw [h1]; simp only [tks, List.length_append, List.length_cons]; omega) hc h3 h4 hw (st_rng (kk := kk.toNat) ha hz hc h1 h2 hl.2.1 hl.2.2.1 hl.2.2.2 hd hS hS2 hk hw hh (by omega) hi nd)
  | neg e ih =>
    intro u b i A B A' B' μ h z hl hc h1 h2 h3 h4 hw hh hn hi nd
    have hl : lv 0 e := by cases u <;> exact hl
    simp only [tks, ords, List.length_cons] at h1 h3 hn
    obtain ⟨μ1, z1, p1, p2⟩ := ih 0 (b + 1) i (A ++ [(N 103, N 0, N 0)]) B A' ([b] ++ B') μ h z hl hc (by rw [h1]; simp) (by rw [List.length_append, h2]; rfl) (by rw [h3]; simp) h4 hw hh (by omega) hi (fun s hs => nd_l (x := fun n => evN G n e) (f := fun _ x => some (N 0, -x)) (nd s hs))
    have hc1 := hc.fr p1.1
    show ∃ μ' z', SP G q S h (sqt (tvE G e) fun x => (N 0, -x)) μ μ' ∧ (((sqt (tvE G e) fun x => (N 0, -x)).1 = N 0 ∧ _) ∨ ∃ i', (sqt (tvE G e) fun x => (N 0, -x)).1 ≠ N 0 ∧ _)
    rcases p2 with ⟨e1, r1⟩ | ⟨i', e1, r1⟩
    · obtain ⟨m1, m2, m3⟩ := p1.2.2.2 e1
      have et : sqt (tvE G e) (fun x => (N 0, -x)) = (N 0, -(tvE G e).2) := by
        have ev : tvE G e = (N 0, (tvE G e).2) := Prod.ext e1 rfl
        rw [ev, sqt_0]
      rw [et]
      have hst := st_neg (d := d + (4 * k + 5) + 1) (b := b) (dp := N dp) (h := h) (A := A) (B := tks e ++ B) (S := S) hc1 (by rw [h1]; simp) h2 (p1.2.1.trans e1) m1 (by omega) m3
      rw [m2] at hst
      obtain ⟨μ3, z3, p5, p6⟩ := op_it (d := d) (k := k) (bt := bt) (i := i + (ords (b + 1) e).length) (A' := A' ++ ords (b + 1) e) (B' := B') (z := z1) (by rw [h1]; simp only [List.length_append, List.length_cons]; omega) hc1 (by rw [h3]; simp) (by rw [List.length_append, h4]) (p1.2.1.trans e1) hst
      refine ⟨μ3, z3, ⟨p1.1.trans p5.1, p5.2.1, fun j hj => (p5.2.2.1 j hj).trans (p1.2.2.1 j hj), p5.2.2.2⟩, ?_⟩
      rcases p6 with ⟨e3, r3⟩ | ⟨i', e3, -⟩
      · refine Or.inl ⟨rfl, ?_⟩
        rw [r1, r3]
        simp only [ords, List.length_append, List.length_cons, List.length_nil, Nat.add_assoc]
      · exact absurd rfl e3
    · rw [sqt_w e1]
      exact ⟨μ1, z1, ⟨p1.1, p1.2.1, p1.2.2.1, fun g => absurd g e1⟩, Or.inr ⟨i', e1, r1⟩⟩
  | pow e kk ih =>
    intro u b i A B A' B' μ h z hl hc h1 h2 h3 h4 hw hh hn hi nd
    have hl : kk = 0 ∧ lv 2 e := by cases u <;> exact hl
    simp only [tks, ords, List.length_cons, List.length_append] at h1 h3 hn
    exact ih 2 (b + 1) i (A ++ [(N 40, N 0, N 0)]) ((N 41, N 0, N 0) :: B) A' B' μ h z hl.2 hc (by rw [h1]; simp) (by rw [List.length_append, h2]; rfl) h3 h4 hw hh (by omega) hi nd
  | add x y ihx ihy => exact run_bin (s := N 43) (op := fun x y => some (N 0, x + y)) (Or.inl rfl) ihx ihy h24 (fun u h => ⟨⟨2, h.2.1⟩, ⟨1, h.2.2⟩⟩) rfl (fun _ => rfl) rfl (fun _ => rfl)
  | sub x y ihx ihy => exact run_bin (s := N 45) (op := fun x y => some (N 0, x - y)) (Or.inr (Or.inl rfl)) ihx ihy h24 (fun u h => ⟨⟨2, h.2.1⟩, ⟨1, h.2.2⟩⟩) rfl (fun _ => rfl) rfl (fun _ => rfl)
  | mul x y ihx ihy => exact run_bin (s := N 42) (op := fun x y => some (N 0, x * y)) (Or.inr (Or.inr rfl)) ihx ihy h24 (fun u h => ⟨⟨1, h.2.1⟩, ⟨0, h.2.2⟩⟩) rfl (fun _ => rfl) rfl (fun _ => rfl)
  | intCast kk =>
    intro u b i A B A' B' μ h z hl
    cases u <;> exact hl.elim
end TREE
